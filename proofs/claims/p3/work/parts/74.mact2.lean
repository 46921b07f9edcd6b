/-! the model's writing -/
abbrev MI (s0 : MSt) (P r' T c : Nat) (pg : Nat → Nat) (g q : Nat → Int64) (j : Nat) (s : MSt) : Prop := (qbs_pages s = qbs_pages s0) ∧ (qbs_newest s = qbs_newest s0) ∧ (qbs_closed s = qbs_closed s0) ∧ (qbs_keys s = qbs_keys s0) ∧ (qbs_values s = qbs_values s0) ∧ (qbs_many s = qbs_many s0) ∧ (qbs_leaves s = qbs_leaves s0) ∧ (qbs_leafCount s = qbs_leafCount s0) ∧ (qbs_written s = nI (16 * j)) ∧ (∀ i, i < 16 * j → qbs_before s i = qbs_words s0 (adr T r' pg i)) ∧ (∀ i, i < 16 * j → qbs_places s i = nI (adr T r' pg i)) ∧ (∀ x, (∀ k, k < j → ¬ (16 * pg k ≤ x ∧ x < 16 * pg k + 16)) → qbs_words s x = qbs_words s0 x) ∧ (SameW P (Gj g T c pg (qbs_keys s0) (qbs_values s0) j) q (qbs_words s))
theorem MI.pgs {s0 : MSt} {P r' T c : Nat} {pg : Nat → Nat} {g q : Nat → Int64} {j : Nat} {s : MSt} (h : MI s0 P r' T c pg g q j s) : qbs_pages s = qbs_pages s0 := h.1
theorem MI.nw {s0 : MSt} {P r' T c : Nat} {pg : Nat → Nat} {g q : Nat → Int64} {j : Nat} {s : MSt} (h : MI s0 P r' T c pg g q j s) : qbs_newest s = qbs_newest s0 := h.2.1
theorem MI.cl {s0 : MSt} {P r' T c : Nat} {pg : Nat → Nat} {g q : Nat → Int64} {j : Nat} {s : MSt} (h : MI s0 P r' T c pg g q j s) : qbs_closed s = qbs_closed s0 := h.2.2.1
theorem MI.ks {s0 : MSt} {P r' T c : Nat} {pg : Nat → Nat} {g q : Nat → Int64} {j : Nat} {s : MSt} (h : MI s0 P r' T c pg g q j s) : qbs_keys s = qbs_keys s0 := h.2.2.2.1
theorem MI.vs {s0 : MSt} {P r' T c : Nat} {pg : Nat → Nat} {g q : Nat → Int64} {j : Nat} {s : MSt} (h : MI s0 P r' T c pg g q j s) : qbs_values s = qbs_values s0 := h.2.2.2.2.1
theorem MI.mn {s0 : MSt} {P r' T c : Nat} {pg : Nat → Nat} {g q : Nat → Int64} {j : Nat} {s : MSt} (h : MI s0 P r' T c pg g q j s) : qbs_many s = qbs_many s0 := h.2.2.2.2.2.1
theorem MI.lv {s0 : MSt} {P r' T c : Nat} {pg : Nat → Nat} {g q : Nat → Int64} {j : Nat} {s : MSt} (h : MI s0 P r' T c pg g q j s) : qbs_leaves s = qbs_leaves s0 := h.2.2.2.2.2.2.1
theorem MI.lc {s0 : MSt} {P r' T c : Nat} {pg : Nat → Nat} {g q : Nat → Int64} {j : Nat} {s : MSt} (h : MI s0 P r' T c pg g q j s) : qbs_leafCount s = qbs_leafCount s0 := h.2.2.2.2.2.2.2.1
theorem MI.wn {s0 : MSt} {P r' T c : Nat} {pg : Nat → Nat} {g q : Nat → Int64} {j : Nat} {s : MSt} (h : MI s0 P r' T c pg g q j s) : qbs_written s = nI (16 * j) := h.2.2.2.2.2.2.2.2.1
theorem MI.bf {s0 : MSt} {P r' T c : Nat} {pg : Nat → Nat} {g q : Nat → Int64} {j : Nat} {s : MSt} (h : MI s0 P r' T c pg g q j s) : ∀ i, i < 16 * j → qbs_before s i = qbs_words s0 (adr T r' pg i) := h.2.2.2.2.2.2.2.2.2.1
theorem MI.pl {s0 : MSt} {P r' T c : Nat} {pg : Nat → Nat} {g q : Nat → Int64} {j : Nat} {s : MSt} (h : MI s0 P r' T c pg g q j s) : ∀ i, i < 16 * j → qbs_places s i = nI (adr T r' pg i) := h.2.2.2.2.2.2.2.2.2.2.1
theorem MI.wd {s0 : MSt} {P r' T c : Nat} {pg : Nat → Nat} {g q : Nat → Int64} {j : Nat} {s : MSt} (h : MI s0 P r' T c pg g q j s) : ∀ x, (∀ k, k < j → ¬ (16 * pg k ≤ x ∧ x < 16 * pg k + 16)) → qbs_words s x = qbs_words s0 x := h.2.2.2.2.2.2.2.2.2.2.2.1
theorem MI.sw {s0 : MSt} {P r' T c : Nat} {pg : Nat → Nat} {g q : Nat → Int64} {j : Nat} {s : MSt} (h : MI s0 P r' T c pg g q j s) : SameW P (Gj g T c pg (qbs_keys s0) (qbs_values s0) j) q (qbs_words s) := h.2.2.2.2.2.2.2.2.2.2.2.2
theorem sw_wP {P : Nat} {g q w : Nat → Int64} {p : Nat} {val : Nat → Int64} (h : SameW P g q w) (hp : p < 64) : SameW P (fun x => if 16 * p ≤ x ∧ x < 16 * p + 16 then val (x - 16 * p) else g x) q (wW w (16 * p) 16 val) := by
  refine ⟨fun i hi => ?_, fun i hi => ?_⟩
  · unfold wW
    by_cases c : 16 * p ≤ i ∧ i < 16 * p + 16
    · rw [if_pos c]; exact if_pos c
    · rw [if_neg c]
      show (if _ then _ else _) = _
      rw [if_neg c]; exact h.1 i hi
  · unfold rtw wW
    rw [if_neg (by omega)]; exact h.2 i hi
theorem sw_wR {P : Nat} {g q w : Nat → Int64} {r : Nat} {val : Nat → Int64} (h : SameW P g q w) (hP : P ≤ 64) : SameW P g (fun x => if 20 * r ≤ x ∧ x < 20 * r + 20 then val (x - 20 * r) else q x) (wW w (1024 + 20 * r) 20 val) := by
  refine ⟨fun i hi => ?_, fun i hi => ?_⟩
  · unfold wW
    rw [if_neg (by omega)]; exact h.1 i hi
  · unfold rtw wW
    show (if _ then _ else _) = _
    by_cases c : 20 * r ≤ i ∧ i < 20 * r + 20
    · rw [if_pos c, if_pos (by omega), show 1024 + i - (1024 + 20 * r) = i - 20 * r by omega]
    · rw [if_neg c, if_neg (by omega)]; exact h.2 i hi
theorem MI.step {n : Nat} {s0 s : MSt} {P r' T c j : Nat} {pg : Nat → Nat} {g q : Nat → Int64} (h : MI s0 P r' T c pg g q j s) (hP : P ≤ 64) (hj : j < T) (hT : T ≤ 2) (hcT : (T = 0 ∧ c = 0) ∨ (T = 1 ∧ 1 ≤ c ∧ c ≤ 7) ∨ (T = 2 ∧ c = 8)) (hlt : ∀ k, k < T → pg k < P) (hin : ∀ j k, j < T → k < T → pg j = pg k → j = k) (hn : 20 < n) : ∃ s', fm_writeLeaf n s (nI (pg j)) (nI (frJ T j)) (nI (ccT T c)) = some s' ∧ MI s0 P r' T c pg g q (j + 1) s' := by
  have hpj := hlt j hj
  have hc7 : ccT T c ≤ 7 := by unfold ccT; split <;> omega
  have hfr : frJ T j + ccT T c ≤ 8 := by unfold frJ ccT; split <;> omega
  obtain ⟨s', e, w⟩ := fm_wl (n := n) (st := s) (p := pg j) (t := 16 * j) (fr := frJ T j) (c := ccT T c) (by omega) (by omega) hfr hc7 hn h.wn
  refine ⟨s', e, ⟨w.pg.trans h.pgs, w.nw.trans h.nw, w.cl.trans h.cl, w.ks.trans h.ks, w.vs.trans h.vs, w.mn.trans h.mn, w.lv.trans h.lv, w.lc.trans h.lc, w.wn, fun i hi => ?_, fun i hi => ?_, fun x hx => ?_, ?_⟩⟩
  · rw [w.bf]; unfold wB2
    by_cases c : 16 * j ≤ i ∧ i < 16 * j + 16
    · rw [if_pos c]
      have ei : i / 16 = j := by omega
      rw [h.wd _ (fun k hk q1 => by have := hin k j (by omega) hj (by omega); omega)]
      unfold adr
      rw [if_pos (by omega), ei, show i % 16 = i - 16 * j by omega]
    · rw [if_neg c]; exact h.bf i (by omega)
  · rw [w.pl]; unfold wP
    by_cases c : 16 * j ≤ i ∧ i < 16 * j + 16
    · rw [if_pos c]
      have ei : i / 16 = j := by omega
      unfold adr
      rw [if_pos (by omega), ei, show i % 16 = i - 16 * j by omega]
    · rw [if_neg c]; exact h.pl i (by omega)
  · rw [w.wd]; unfold wW
    rw [if_neg (hx j (by omega))]
    exact h.wd x (fun k hk => hx k (by omega))
  · rw [w.wd, h.ks, h.vs]
    exact sw_wP h.sw (by omega)
/-- what the model's ACT has done -/
abbrev MAs (ms ms' : MSt) (P : Nat) (g q : Nat → Int64) (v L lb c T : Nat) (pl pg : Nat → Nat) (E : Int64) : Prop := (qbs_pages ms' = qbs_pages ms) ∧ (qbs_newest ms' = nI (v + 1)) ∧ (qbs_closed ms' = qbs_closed ms) ∧ (qbs_altered ms' = 0) ∧ (qbs_written ms' = nI (16 * T + 20)) ∧ (∀ i, i < 16 * T + 20 → qbs_before ms' i = qbs_words ms (adr T ((v + 1) % 8) pg i) ∧ qbs_places ms' i = nI (adr T ((v + 1) % 8) pg i)) ∧ (SameW P (Gj g T c pg (qbs_keys ms) (qbs_values ms) T) (fun x => if 20 * ((v + 1) % 8) ≤ x ∧ x < 20 * ((v + 1) % 8) + 20 then rootV (v + 1) (lb + T + (L - (lb + 1))) (nlf lb T pl pg) E (x - 20 * ((v + 1) % 8)) else q x) (qbs_words ms'))
theorem MAs.pgs {ms ms' : MSt} {P : Nat} {g q : Nat → Int64} {v L lb c T : Nat} {pl pg : Nat → Nat} {E : Int64} (h : MAs ms ms' P g q v L lb c T pl pg E) : qbs_pages ms' = qbs_pages ms := h.1
theorem MAs.nw {ms ms' : MSt} {P : Nat} {g q : Nat → Int64} {v L lb c T : Nat} {pl pg : Nat → Nat} {E : Int64} (h : MAs ms ms' P g q v L lb c T pl pg E) : qbs_newest ms' = nI (v + 1) := h.2.1
theorem MAs.cl {ms ms' : MSt} {P : Nat} {g q : Nat → Int64} {v L lb c T : Nat} {pl pg : Nat → Nat} {E : Int64} (h : MAs ms ms' P g q v L lb c T pl pg E) : qbs_closed ms' = qbs_closed ms := h.2.2.1
theorem MAs.al {ms ms' : MSt} {P : Nat} {g q : Nat → Int64} {v L lb c T : Nat} {pl pg : Nat → Nat} {E : Int64} (h : MAs ms ms' P g q v L lb c T pl pg E) : qbs_altered ms' = 0 := h.2.2.2.1
theorem MAs.wn {ms ms' : MSt} {P : Nat} {g q : Nat → Int64} {v L lb c T : Nat} {pl pg : Nat → Nat} {E : Int64} (h : MAs ms ms' P g q v L lb c T pl pg E) : qbs_written ms' = nI (16 * T + 20) := h.2.2.2.2.1
theorem MAs.bp {ms ms' : MSt} {P : Nat} {g q : Nat → Int64} {v L lb c T : Nat} {pl pg : Nat → Nat} {E : Int64} (h : MAs ms ms' P g q v L lb c T pl pg E) : ∀ i, i < 16 * T + 20 → qbs_before ms' i = qbs_words ms (adr T ((v + 1) % 8) pg i) ∧ qbs_places ms' i = nI (adr T ((v + 1) % 8) pg i) := h.2.2.2.2.2.1
theorem MAs.sw {ms ms' : MSt} {P : Nat} {g q : Nat → Int64} {v L lb c T : Nat} {pl pg : Nat → Nat} {E : Int64} (h : MAs ms ms' P g q v L lb c T pl pg E) : SameW P (Gj g T c pg (qbs_keys ms) (qbs_values ms) T) (fun x => if 20 * ((v + 1) % 8) ≤ x ∧ x < 20 * ((v + 1) % 8) + 20 then rootV (v + 1) (lb + T + (L - (lb + 1))) (nlf lb T pl pg) E (x - 20 * ((v + 1) % 8)) else q x) (qbs_words ms') := h.2.2.2.2.2.2
def maE (w : Int32) (st : MSt) : MSt := qbs_put_altered 0 (qbs_put_newest w st)
theorem maE_f (w : Int32) (st : MSt) : qbs_pages (maE w st) = qbs_pages st ∧ qbs_newest (maE w st) = w ∧ qbs_closed (maE w st) = qbs_closed st ∧ qbs_altered (maE w st) = 0 ∧ qbs_written (maE w st) = qbs_written st ∧ qbs_before (maE w st) = qbs_before st ∧ qbs_places (maE w st) = qbs_places st ∧ qbs_words (maE w st) = qbs_words st := ⟨rfl, rfl, rfl, rfl, rfl, rfl, rfl, rfl⟩
theorem w0_f (w : Int32) (st : MSt) : qbs_pages (qbs_put_written w st) = qbs_pages st ∧ qbs_newest (qbs_put_written w st) = qbs_newest st ∧ qbs_closed (qbs_put_written w st) = qbs_closed st ∧ qbs_keys (qbs_put_written w st) = qbs_keys st ∧ qbs_values (qbs_put_written w st) = qbs_values st ∧ qbs_many (qbs_put_written w st) = qbs_many st ∧ qbs_leaves (qbs_put_written w st) = qbs_leaves st ∧ qbs_leafCount (qbs_put_written w st) = qbs_leafCount st ∧ qbs_written (qbs_put_written w st) = w ∧ qbs_words (qbs_put_written w st) = qbs_words st := ⟨rfl, rfl, rfl, rfl, rfl, rfl, rfl, rfl, rfl, rfl⟩
theorem fm_act252 (n : Nat) {s0 : MSt} {P : Nat} {g q : Nat → Int64} {v L lb c T : Nat} {pl pg : Nat → Nat} {E : Int64} (hP : P ≤ 64) (hv : v + 1 < 2 ^ 31) (hL : L ≤ 16) (hN : lb + T + (L - (lb + 1)) ≤ 16) (hT : T ≤ 2) (hcT : (T = 0 ∧ c = 0) ∨ (T = 1 ∧ 1 ≤ c ∧ c ≤ 7) ∨ (T = 2 ∧ c = 8)) (hlt : ∀ k, k < T → pg k < P) (hin : ∀ j k, j < T → k < T → pg j = pg k → j = k) (hnl : ∀ i, i < lb + T + (L - (lb + 1)) → nlf lb T pl pg i < 64) (hnw : qbs_newest s0 = nI v) (hmn : qbs_many s0 = nI c) (hlv : ∀ i, i < lb + T + (L - (lb + 1)) → qbs_leaves s0 i = nI (nlf lb T pl pg i)) (hlc : qbs_leafCount s0 = nI (lb + T + (L - (lb + 1)))) (hn : 20 < n) (m : Nat) : ∀ (k j : Nat) (s : MSt), j + m = T → m < k → MI s0 P ((v + 1) % 8) T c pg g q j s →
    ∃ s', fm_act_252 n k s (nI T) (nI lb) E (nI j) = some (1, s') ∧ MAs s0 s' P g q v L lb c T pl pg E := by
  induction m with
  | zero =>
    intro k j s h1 h2 h
    obtain ⟨k, rfl⟩ : ∃ i, k = i + 1 := ⟨k - 1, by omega⟩
    obtain rfl : j = T := by omega
    obtain ⟨s1, e, w⟩ := fm_wr (n := n) (st := s) (t := 16 * j) (u := v + 1) (L := lb + j + (L - (lb + 1))) (nl := nlf lb j pl pg) (E := E) (by omega) (by omega) hN hnl (fun i hi => by rw [h.lv]; exact hlv i hi) (h.lc.trans hlc) hn h.wn
    have nw1 : qbs_newest s1 + 1 = nI (v + 1) := by rw [w.nw, h.nw, hnw, nI_1]
    obtain ⟨a1, a2, a3, a4, a5, a6, a7, a8⟩ := maE_f (nI (v + 1)) s1
    refine ⟨maE (nI (v + 1)) s1, ?_, ⟨by rw [a1, w.pg, h.pgs], a2, by rw [a3, w.cl, h.cl], a4, by rw [a5]; exact w.wn, fun i hi => ?_, ?_⟩⟩
    · rw [fm_act_252, if_pos (nI_le (by omega) (by omega)), h.nw, hnw, nI_1, e, bind_s, nw1]; rfl
    · rw [a6, a7, w.bf, w.pl]
      unfold wB2 wP
      by_cases c : 16 * j ≤ i ∧ i < 16 * j + 20
      · rw [if_pos c, if_pos c]
        have ea : adr j ((v + 1) % 8) pg i = 1024 + 20 * ((v + 1) % 8) + (i - 16 * j) := by unfold adr; rw [if_neg (by omega)]
        rw [ea, h.wd _ (fun k hk q1 => by have := hlt k hk; omega)]
        exact ⟨rfl, rfl⟩
      · rw [if_neg c, if_neg c]; exact ⟨h.bf i (by omega), h.pl i (by omega)⟩
    · rw [a8, w.wd]
      exact sw_wR h.sw hP
  | succ m ih =>
    intro k j s h1 h2 h
    obtain ⟨k, rfl⟩ : ∃ i, k = i + 1 := ⟨k - 1, by omega⟩
    obtain ⟨s1, e, h'⟩ := h.step (n := n) hP (by omega) hT hcT hlt hin hn
    have hlj : qbs_leaves s (lb + j) = nI (pg j) := by
      rw [h.lv, hlv _ (by omega)]; unfold nlf; rw [if_neg (by omega), if_pos (by omega), show lb + j - lb = j by omega]
    obtain ⟨s', e2, hM⟩ := ih k (j + 1) s1 (by omega) (by omega) h'
    refine ⟨s', ?_, hM⟩
    rw [fm_act_252, if_neg (nI_ge (by omega) (by omega)), h.mn, hmn, nI_add, rdI_n (by omega) (by omega), bind_s, bind_s, bind_s, bind_s, hlj, nI_1]
    by_cases c8 : c = 8
    · have t2 : T = 2 := by omega
      rw [if_pos (by rw [c8]; rfl), if_pos (by rw [c8]; rfl), show (4 : Int32) = nI 4 from rfl, pk_mul]
      unfold frJ ccT at e
      rw [if_pos t2, if_pos t2] at e
      rw [e, bind_s]; exact e2
    · have t1 : ¬ T = 2 := by omega
      have c8' : ¬ nI c = 8 := fun q => c8 ((nI_eq (b := 8) (by omega) (by omega)).mp q)
      rw [if_neg c8', if_neg c8']
      unfold frJ ccT at e
      rw [if_neg t1, if_neg t1] at e
      rw [show (0 : Int32) = nI 0 from rfl, e, bind_s]; exact e2
theorem fm_actE {n : Nat} {ms : MSt} {P : Nat} {g q : Nat → Int64} {v L lb c T : Nat} {pl cnt : Nat → Nat} (h : AC P g q v L lb c T pl cnt) (hw : SameW P g q (qbs_words ms)) (hpg : qbs_pages ms = nI P) (hnw : qbs_newest ms = nI v) (hmn : qbs_many ms = nI c) (hn : 70 < n) (x2 : Int32) :
    (∀ pg, lb + T + (L - (lb + 1)) ≤ 16 → PgS (hld P q (nI v).toInt64) P T pg → ∃ ms', fm_act n ms (nI lb) x2 = some (1, ms') ∧ MAs ms ms' P g q v L lb c T pl pg (((q (20 * (v % 8) + 18)).toInt32 + x2).toInt64)) ∧
    (¬ lb + T + (L - (lb + 1)) ≤ 16 ∨ PgN (hld P q (nI v).toInt64) P T → ∃ ms', fm_act n ms (nI lb) x2 = some (0, ms') ∧ FrM ms ms') := by
  have h16 := h.rr.l16
  have hp8 := h.p8
  have hP := h.p64
  have hv := h.v31
  have hT2 : T ≤ 2 := by rcases h.cT with h1 | h1 | h1 <;> omega
  have hlb : lb ≤ L := by rcases h.lb with h1 | h1 <;> omega
  have e0 : fm_act n ms (nI lb) x2 = fm_act_39 n n ms (nI lb) x2 (nI T) (nI L) 0 := by
    rw [fm_act, hmn, hnw, fm_leavesE (by omega) hw, bind_s, bind_s, bind_s, h.rr.lv, lN_i]
    rcases h.cT with ⟨rfl, rfl⟩ | ⟨rfl, h1, h2⟩ | ⟨rfl, rfl⟩
    · rw [if_pos (show nI 0 = 0 from rfl)]; rfl
    · rw [if_neg (nI_ne0 (by omega) (by omega)), if_neg (fun q => by have := (nI_eq (b := 8) (by omega) (by omega)).mp q; omega)]; rfl
    · rw [if_neg (by decide), if_pos (show nI 8 = 8 from rfl)]; rfl
  obtain ⟨s1, e1, f1, c1, t1⟩ := fm_act39 n ms (nI lb) x2 (nI T) (nI L) 64 n 0 ms (by omega) (by omega) (FrL.refl _) (fun i hi => by omega)
  obtain ⟨s2, e2, f2, c2, l2, t2⟩ := fm_act68 n ms (by omega) hw hnw h.rr hlb x2 (nI T) (nI L) lb n 0 s1 (by omega) (by omega) f1 c1 (fun i hi => by omega) t1
  have e012 : fm_act n ms (nI lb) x2 = fm_act_118 n n s2 (nI lb) x2 (nI T) (nI L) (nI lb) 0 := e0.trans ((show fm_act_39 n n ms (nI lb) x2 (nI T) (nI L) 0 = _ from e1).trans e2)
  obtain ⟨hok, hno⟩ := fm_act118 (n := n) (st := ms) (s := s2) (P := P) (f := hld P q (nI v).toInt64) (T := T) (lb := lb) (x2 := x2) (x4 := nI L) (pl := pl) (by omega) hP hpg (fun p => by rw [hnw, hld_congr hP hw]) hT2 (by omega) hn f2 c2 l2 t2
  rw [e012]
  have run : ∀ pg, PgS (hld P q (nI v).toInt64) P T pg → ∃ s4, FrL ms s4 ∧ (lb + T + (L - (lb + 1)) ≤ 16 → fm_act_118 n n s2 (nI lb) x2 (nI T) (nI L) (nI lb) 0 = fm_act_252 n n (qbs_put_written 0 s4) (nI T) (nI lb) (((q (20 * (v % 8) + 18)).toInt32 + x2).toInt64) 0) ∧ (¬ lb + T + (L - (lb + 1)) ≤ 16 → fm_act_118 n n s2 (nI lb) x2 (nI T) (nI L) (nI lb) 0 = some (0, s4)) ∧ qbs_leafCount s4 = nI (lb + T + (L - (lb + 1))) ∧ ∀ i, i < lb + T + (L - (lb + 1)) → qbs_leaves s4 i = nI (nlf lb T pl pg i) := by
    intro pg hpgs
    obtain ⟨s3, e3, f3, c3, l3, g3⟩ := hok pg hpgs
    rw [e3]
    refine fm_act178 n ms (by omega) hw hnw h.rr h.lb hT2 x2 (max L (lb + 1) - (lb + 1)) n (lb + 1) s3 (by omega) (by omega) (by omega) f3 (by rw [show lb + 1 - 1 + T = lb + T by omega]; exact c3) (fun i hi => ?_)
    unfold nlf
    by_cases q1 : i < lb
    · rw [if_pos q1]; exact l3 i q1
    · rw [if_neg q1, if_pos (by omega)]
      have := g3 (i - lb) (by omega)
      rw [show lb + (i - lb) = i by omega] at this
      exact this
  constructor
  · intro pg hN hpgs
    obtain ⟨s4, f4, e4, -, c4, l4⟩ := run pg hpgs
    rw [e4 hN]
    have hlt := hpgs.lt hT2
    have hnl : ∀ i, i < lb + T + (L - (lb + 1)) → nlf lb T pl pg i < 64 := by
      intro i hi
      unfold nlf
      by_cases q1 : i < lb
      · rw [if_pos q1]; have := h.rr.pp i (by omega); omega
      · rw [if_neg q1]
        by_cases q2 : i < lb + T
        · rw [if_pos q2]; have := (hlt (i - lb) (by omega)).1; omega
        · rw [if_neg q2]; have := h.rr.pp (i + 1 - T) (by omega); omega
    obtain ⟨b1, b2, b3, b4, b5, b6, b7, b8, b9, b10⟩ := w0_f 0 s4
    have hMI : MI (qbs_put_written 0 s4) P ((v + 1) % 8) T c pg g q 0 (qbs_put_written 0 s4) := ⟨rfl, rfl, rfl, rfl, rfl, rfl, rfl, rfl, b9, fun i hi => by omega, fun i hi => by omega, fun x _ => rfl, by rw [b10, f4.fr.wd]; exact hw⟩
    obtain ⟨s5, e5, hM⟩ := fm_act252 n (s0 := qbs_put_written 0 s4) (P := P) (g := g) (q := q) (v := v) (L := L) (lb := lb) (c := c) (T := T) (pl := pl) (pg := pg) (E := ((q (20 * (v % 8) + 18)).toInt32 + x2).toInt64) hP hv h16 hN hT2 h.cT (fun k hk => (hlt k hk).1) (hpgs.inj hT2) hnl (by rw [b2, f4.fr.nw]; exact hnw) (by rw [b6, f4.mn]; exact hmn) (fun i hi => by rw [b7]; exact l4 i hi) (by rw [b8]; exact c4) (by omega) T n 0 _ (by omega) (by omega) hMI
    have k1 := hM.sw
    have k2 := hM.bp
    rw [b4, b5, f4.ks, f4.vs] at k1
    rw [b10, f4.fr.wd] at k2
    exact ⟨s5, e5, ⟨by rw [hM.pgs, b1, f4.fr.pg], hM.nw, by rw [hM.cl, b3, f4.fr.cl], hM.al, hM.wn, k2, k1⟩⟩
  · intro hf
    by_cases hN : lb + T + (L - (lb + 1)) ≤ 16
    · rcases hf with hf | hf
      · exact absurd hN hf
      · obtain ⟨s', e, f⟩ := hno hf
        exact ⟨s', e, f.fr⟩
    · rcases pg_or (hld P q (nI v).toInt64) P T hT2 with ⟨pg, hpgs⟩ | hpn
      · obtain ⟨s4, f4, -, e4, -, -⟩ := run pg hpgs
        exact ⟨s4, e4 hN, f4.fr⟩
      · obtain ⟨s', e, f⟩ := hno hpn
        exact ⟨s', e, f.fr⟩
