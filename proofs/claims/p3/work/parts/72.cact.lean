/-! AN ACT, the class's side -/
theorem fstN_skip {f : Nat → Bool} (m : Nat) : ∀ j k, (∀ i, j ≤ i → i < j + m → f i = true) → fstN f (m + k) j = fstN f k (j + m) := by
  induction m with
  | zero => intro j k _; rw [Nat.zero_add, Nat.add_zero]
  | succ m ih =>
    intro j k h
    rw [show m + 1 + k = (m + k) + 1 by omega, fstN, if_pos (h j (by omega) (by omega)), ih (j + 1) k (fun i h1 h2 => h i (by omega) (by omega)), show j + 1 + m = j + (m + 1) by omega]
theorem hldR_in {q : Nat → Int64} {a p i : Nat} (h : q (a + 2 + i) = lN p) (m : Nat) : ∀ j, j ≤ i → i < j + m → hldR q a p m j = true := by
  induction m with
  | zero => intro j h1 h2; omega
  | succ m ih =>
    intro j h1 h2
    rw [hldR]
    by_cases e : i = j
    · rw [← e, decide_eq_true h]; rfl
    · rw [ih (j + 1) (by omega) (by omega), Bool.or_true]
theorem hldG_in {P : Nat} {q : Nat → Int64} {nw : Int64} {p r : Nat} (h : hld1 P q nw r p = true) (m : Nat) : ∀ j, j ≤ r → r < j + m → hldG P q nw p m j = true := by
  induction m with
  | zero => intro j h1 h2; omega
  | succ m ih =>
    intro j h1 h2
    rw [hldG]
    by_cases e : r = j
    · rw [← e, h]; rfl
    · rw [ih (j + 1) (by omega) (by omega), Bool.or_true]
theorem rrt_snd {P : Nat} {g q : Nat → Int64} {r : Nat} (h : rrt P g q r = true) : snd P q r = true := by
  simp only [rrt, Bool.and_eq_true] at h; exact h.2.1
theorem RR.held {P : Nat} {g q : Nat → Int64} {r L : Nat} {pl c : Nat → Nat} (h : RR P g q r L pl c) (hs : snd P q r = true) (hr : r < 8) {nw : Int64} (hn : q (20 * r) ≤ nw) {i : Nat} (hi : i < L) : hld P q nw (pl i) = true := by
  have h16 := h.l16
  refine hldG_in (r := r) ?_ 8 0 (by omega) (by omega)
  rw [hld1, decide_eq_true hn, hs, h.lv, cN_lN (by omega), hldR_in (h.pq i hi) L 0 (by omega) (by omega)]; rfl
/-- what is known as an ACT begins -/
abbrev AC (P : Nat) (g q : Nat → Int64) (v L lb c T : Nat) (pl cnt : Nat → Nat) : Prop := (8 ≤ P) ∧ (P ≤ 64) ∧ (v + 1 < 2 ^ 31) ∧ (RR P g q (v % 8) L pl cnt) ∧ (snd P q (v % 8) = true) ∧ (q (20 * (v % 8)) = lN v) ∧ ((L = 0 ∧ lb = 0) ∨ lb < L) ∧ ((T = 0 ∧ c = 0) ∨ (T = 1 ∧ 1 ≤ c ∧ c ≤ 7) ∨ (T = 2 ∧ c = 8))
theorem AC.p8 {P : Nat} {g q : Nat → Int64} {v L lb c T : Nat} {pl cnt : Nat → Nat} (h : AC P g q v L lb c T pl cnt) : 8 ≤ P := h.1
theorem AC.p64 {P : Nat} {g q : Nat → Int64} {v L lb c T : Nat} {pl cnt : Nat → Nat} (h : AC P g q v L lb c T pl cnt) : P ≤ 64 := h.2.1
theorem AC.v31 {P : Nat} {g q : Nat → Int64} {v L lb c T : Nat} {pl cnt : Nat → Nat} (h : AC P g q v L lb c T pl cnt) : v + 1 < 2 ^ 31 := h.2.2.1
theorem AC.rr {P : Nat} {g q : Nat → Int64} {v L lb c T : Nat} {pl cnt : Nat → Nat} (h : AC P g q v L lb c T pl cnt) : RR P g q (v % 8) L pl cnt := h.2.2.2.1
theorem AC.sn {P : Nat} {g q : Nat → Int64} {v L lb c T : Nat} {pl cnt : Nat → Nat} (h : AC P g q v L lb c T pl cnt) : snd P q (v % 8) = true := h.2.2.2.2.1
theorem AC.tv {P : Nat} {g q : Nat → Int64} {v L lb c T : Nat} {pl cnt : Nat → Nat} (h : AC P g q v L lb c T pl cnt) : q (20 * (v % 8)) = lN v := h.2.2.2.2.2.1
theorem AC.lb {P : Nat} {g q : Nat → Int64} {v L lb c T : Nat} {pl cnt : Nat → Nat} (h : AC P g q v L lb c T pl cnt) : (L = 0 ∧ lb = 0) ∨ lb < L := h.2.2.2.2.2.2.1
theorem AC.cT {P : Nat} {g q : Nat → Int64} {v L lb c T : Nat} {pl cnt : Nat → Nat} (h : AC P g q v L lb c T pl cnt) : (T = 0 ∧ c = 0) ∨ (T = 1 ∧ 1 ≤ c ∧ c ≤ 7) ∨ (T = 2 ∧ c = 8) := h.2.2.2.2.2.2.2
/-- the pages that are taken -/
def PgS (f : Nat → Bool) (P T : Nat) (pg : Nat → Nat) : Prop := (1 ≤ T → fstN f P 0 = some (pg 0)) ∧ (T = 2 → fstN f (P - (pg 0 + 1)) (pg 0 + 1) = some (pg 1))
def PgN (f : Nat → Bool) (P T : Nat) : Prop := (1 ≤ T ∧ fstN f P 0 = none) ∨ (T = 2 ∧ ∃ p, fstN f P 0 = some p ∧ fstN f (P - (p + 1)) (p + 1) = none)
theorem pg_or (f : Nat → Bool) (P T : Nat) (hT : T ≤ 2) : (∃ pg, PgS f P T pg) ∨ PgN f P T := by
  by_cases h0 : T = 0
  · exact Or.inl ⟨fun _ => 0, fun h => by omega, fun h => by omega⟩
  · cases h1 : fstN f P 0 with
    | none => exact Or.inr (Or.inl ⟨by omega, h1⟩)
    | some p =>
      by_cases h2 : T = 2
      · cases h3 : fstN f (P - (p + 1)) (p + 1) with
        | none => exact Or.inr (Or.inr ⟨h2, p, h1, h3⟩)
        | some p2 => exact Or.inl ⟨fun i => if i = 0 then p else p2, fun _ => h1, fun _ => h3⟩
      · exact Or.inl ⟨fun _ => p, fun _ => h1, fun h => absurd h h2⟩
theorem PgS.lt {f : Nat → Bool} {P T : Nat} {pg : Nat → Nat} (h : PgS f P T pg) (hT : T ≤ 2) : ∀ k, k < T → pg k < P ∧ f (pg k) = false := by
  intro k hk
  have h1 := fstN_some _ _ _ (h.1 (by omega))
  by_cases e : k = 0
  · rw [e]; exact ⟨by omega, h1.2.2.1⟩
  · have e1 : k = 1 := by omega
    have h2 := fstN_some _ _ _ (h.2 (by omega))
    rw [e1]; exact ⟨by omega, h2.2.2.1⟩
theorem PgS.inj {f : Nat → Bool} {P T : Nat} {pg : Nat → Nat} (h : PgS f P T pg) (hT : T ≤ 2) : ∀ j k, j < T → k < T → pg j = pg k → j = k := by
  intro j k hj hk e
  by_cases h2 : T = 2
  · have h3 := fstN_some _ _ _ (h.2 h2)
    rcases (show j = 0 ∨ j = 1 by omega) with rfl | rfl <;> rcases (show k = 0 ∨ k = 1 by omega) with rfl | rfl
    · rfl
    · omega
    · omega
    · rfl
  · omega
def tkI (T : Nat) (pg : Nat → Nat) (i : Nat) : Int32 := if i < T then nI (pg i) else 0
theorem fb_act_T {n : Nat} {st : BSt} {v L lb c T : Nat} {pl cnt : Nat → Nat} {g q : Nat → Int64} (h : AC (bs_P st) g q v L lb c T pl cnt) (hd : bs_draftCount st = nI c) {x2 : Int32} (hx : x2 = if L = 0 then -1 else nI lb) (x1 : Int32) : fb_act n st x1 x2 = fb_act_36 n st x1 x2 (nI T) (nI (if L = 0 then 0 else 1)) := by
  have hg : (if x2 = -1 then (0 : Int32) else 1) = nI (if L = 0 then 0 else 1) := by
    have h16 := h.rr.l16
    rw [hx]
    by_cases e : L = 0
    · rw [if_pos e, if_pos rfl, if_pos e]; rfl
    · rw [if_neg e, if_neg e, if_neg (nI_m1 (by rcases h.lb with h1 | h1 <;> omega))]; rfl
  rw [fb_act, hd]
  rcases h.cT with ⟨rfl, rfl⟩ | ⟨rfl, h1, h2⟩ | ⟨rfl, rfl⟩
  · rw [if_pos (by decide), if_pos (by decide), ← hg]
    split <;> rfl
  · rw [if_pos (by rw [lt32 7, nI_leI (by omega) (by omega)]; omega), if_neg (nI_nle (by omega) (by omega)), ← hg]
    split <;> rfl
  · rw [if_neg (by decide), ← hg]
    split <;> rfl
theorem fb_act_36E {n : Nat} {st : BSt} {v L lb c T : Nat} {pl cnt : Nat → Nat} (h : AC (bs_P st) (bs_pages st) (bs_roots st) v L lb c T pl cnt) (hn : 70 < n) (x2 : Int32) :
    (∀ pg, lb + T + (L - (lb + 1)) ≤ 16 → PgS (hld (bs_P st) (bs_roots st) (bs_newest st).toInt64) (bs_P st) T pg → fb_act_36 n st (nI (v % 8)) x2 (nI T) (nI (if L = 0 then 0 else 1)) = fb_act_111 n st (nI (v % 8)) x2 (nI T) (tkI T pg 0) (tkI T pg 1)) ∧
    (¬ lb + T + (L - (lb + 1)) ≤ 16 ∨ PgN (hld (bs_P st) (bs_roots st) (bs_newest st).toInt64) (bs_P st) T → fb_act_36 n st (nI (v % 8)) x2 (nI T) (nI (if L = 0 then 0 else 1)) = some (.inr 0, st)) := by
  have h16 := h.rr.l16
  have hT2 : T ≤ 2 := by rcases h.cT with h1 | h1 | h1 <;> omega
  have hP := h.p64
  have hlb : lb ≤ L := by rcases h.lb with h1 | h1 <;> omega
  obtain ⟨H, hH, hb⟩ := fb_heldE (st := st) (n := n) h.p64 (by omega)
  have e0 : nI L - nI (if L = 0 then 0 else 1) + nI T = nI (lb + T + (L - (lb + 1))) := by
    rcases h.lb with ⟨h1, h2⟩ | h1
    · have e : L - 0 + T = lb + T + (L - (lb + 1)) := by omega
      rw [if_pos h1, pk_sub (by omega), nI_add, e]
    · have e : L - 1 + T = lb + T + (L - (lb + 1)) := by omega
      rw [if_neg (by omega), pk_sub (by omega), nI_add, e]
  have e1 : fb_act_36 n st (nI (v % 8)) x2 (nI T) (nI (if L = 0 then 0 else 1)) = if lb + T + (L - (lb + 1)) ≤ 16 then (if T = 0 then fb_act_84 n st (nI (v % 8)) x2 (nI T) H 0 else fb_act_84 n st (nI (v % 8)) x2 (nI T) H (o2i (fstN (hld (bs_P st) (bs_roots st) (bs_newest st).toInt64) (bs_P st) 0))) else some (.inr 0, st) := by
    rw [fb_act_36, fb_leavesOfE (by omega), bind_s, h.rr.lv, lN_i, e0, hH, bind_s]
    by_cases c : lb + T + (L - (lb + 1)) ≤ 16
    · rw [if_pos (by rw [lt32 16, nI_leI (by omega) (by omega)]; exact c), if_pos c]
      by_cases c0 : T = 0
      · rw [if_pos (by rw [c0]; decide), if_pos c0]
      · rw [if_neg (nI_nle (by omega) (by omega)), if_neg c0, show (0 : Int32) = nI 0 from rfl, fb_pni hP hb (by omega) hn, bind_s, Nat.sub_zero]
    · rw [if_neg (by rw [lt32 16, nI_leI (by omega) (by omega)]; exact c), if_neg c]
  constructor
  · intro pg hN hpg
    rw [e1, if_pos hN]
    by_cases c0 : T = 0
    · rw [if_pos c0, fb_act_84, if_pos (by rw [c0]; decide)]
      unfold tkI
      rw [if_neg (by omega), if_neg (by omega)]
    · have hl := hpg.lt hT2 0 (by omega)
      rw [if_neg c0, hpg.1 (by omega), show o2i (some (pg 0)) = nI (pg 0) from rfl, fb_act_84]
      unfold tkI
      by_cases c1 : T = 1
      · rw [if_pos (by rw [c1]; decide), if_pos (by omega), if_neg (by omega)]
      · have c2 : T = 2 := by omega
        rw [if_neg (by rw [c2]; decide), if_neg (nI_m1 (by omega)), nI_1, fb_pni hP hb (by omega) hn, bind_s, hpg.2 c2, if_pos (by omega), if_pos (by omega)]; rfl
  · intro hf
    rw [e1]
    by_cases c : lb + T + (L - (lb + 1)) ≤ 16
    · rw [if_pos c]
      rcases hf with hf | ⟨h1, h2⟩ | ⟨h1, p, h2, h3⟩
      · exact absurd c hf
      · have z : fb_act_111 n st (nI (v % 8)) x2 (nI T) (-1) 0 = some (.inr 0, st) := by rw [fb_act_111, if_pos rfl]
        rw [if_neg (by omega), h2, show o2i none = -1 from rfl, fb_act_84, z, if_pos rfl]
        split <;> rfl
      · have hl := fstN_some _ _ _ h2
        rw [if_neg (by omega), h2, show o2i (some p) = nI p from rfl, fb_act_84, if_neg (by rw [h1]; decide), if_neg (nI_m1 (by omega)), nI_1, fb_pni hP hb (by omega) hn, bind_s, h3, fb_act_111, if_neg (nI_m1 (by omega)), if_pos (show o2i none = -1 from rfl)]
    · rw [if_neg c]
/-- the leaves that are written, the new root's leaves and entries -/
def frJ (T j : Nat) : Nat := if T = 2 then 4 * j else 0
def ccT (T c : Nat) : Nat := if T = 2 then 4 else c
def Gj (g : Nat → Int64) (T c : Nat) (pg : Nat → Nat) (K V : Nat → Int64) : Nat → Nat → Int64
  | 0 => g
  | j + 1 => fun x => if 16 * pg j ≤ x ∧ x < 16 * pg j + 16 then leafV (ccT T c) (fun i => K (frJ T j + i)) (fun i => V (frJ T j + i)) (x - 16 * pg j) else Gj g T c pg K V j x
theorem Gj_out {g : Nat → Int64} {T c : Nat} {pg : Nat → Nat} {K V : Nat → Int64} {x : Nat} (j : Nat) (h : ∀ k, k < j → ¬ (16 * pg k ≤ x ∧ x < 16 * pg k + 16)) : Gj g T c pg K V j x = g x := by
  induction j with
  | zero => rfl
  | succ j ih =>
    show (if _ then _ else _) = _
    rw [if_neg (h j (by omega))]; exact ih (fun k hk => h k (by omega))
theorem fb_wls {n : Nat} {st : BSt} {T c : Nat} {pg : Nat → Nat} (hP : bs_P st ≤ 64) (hc : (T = 0 ∧ c = 0) ∨ (T = 1 ∧ 1 ≤ c ∧ c ≤ 7) ∨ (T = 2 ∧ c = 8)) (hd : bs_draftCount st = nI c) (htc : bs_takenCount st = nI T) (htp : ∀ k, k < T → bs_takenPages st k = nI (pg k)) (hpg : ∀ k, k < T → pg k < bs_P st) (hn : 20 < n) : ∃ s', fb_writeLeaves n st = some s' ∧ FrP st s' ∧ ∀ x, bs_pages s' x = Gj (bs_pages st) T c pg (bs_draftKeys st) (bs_draftValues st) T x := by
  rw [fb_writeLeaves, htc]
  rcases hc with ⟨rfl, rfl⟩ | ⟨rfl, h1, h2⟩ | ⟨rfl, rfl⟩
  · refine ⟨st, ?_, FrP.refl _, fun x => rfl⟩
    rw [if_neg (by decide), fb_writeLeaves_23, htc, if_neg (by decide)]
  · obtain ⟨s1, e1, f1, g1⟩ := fb_wl (n := n) (fr := 0) (c := c) hP (hpg 0 (by omega)) (by omega) h2 hn
    rw [Nat.zero_add] at e1
    refine ⟨s1, ?_, f1, fun x => ?_⟩
    · rw [if_pos (show nI 1 = 1 from rfl), show (0 : Int32) = nI 0 from rfl, rdI_n (by omega) (by omega), bind_s, htp 0 (by omega), hd, e1, bind_s, fb_writeLeaves_23, f1.tc, htc, if_neg (by decide)]
    · exact g1 x
  · obtain ⟨s1, e1, f1, g1⟩ := fb_wl (n := n) (fr := 0) (c := 4) hP (hpg 0 (by omega)) (by omega) (by omega) hn
    have hP1 := f1.P
    obtain ⟨s2, e2, f2, g2⟩ := fb_wl (n := n) (st := s1) (p := pg 1) (fr := 4) (c := 4) (by rw [hP1]; exact hP) (by rw [hP1]; exact hpg 1 (by omega)) (by omega) (by omega) hn
    refine ⟨s2, ?_, f1.trans f2, fun x => ?_⟩
    · rw [if_neg (by decide), fb_writeLeaves_23, htc, if_pos (show nI 2 = 2 from rfl), show (0 : Int32) = nI 0 from rfl, rdI_n (by omega) (by omega), bind_s, htp 0 (by omega), show (4 : Int32) = nI 4 from rfl, show fb_writeLeaf n st (nI (pg 0)) (nI 0) (nI 4) = _ from e1, bind_s, f1.tp, lt32 1, rdI_n (by omega) (by omega), bind_s, htp 1 (by omega), f1.dc, hd, e2, bind_s]
    · rw [g2, f1.dk, f1.dv, g1]; rfl
theorem g1_put (v : Int32) (st : BSt) : bs_writtenRoot (bs_put_writtenRoot v st) = v := rfl
/-- the state in which the words before are kept -/
def acS (a1 a2 : Nat → Int32) (t w : Int32) (st : BSt) : BSt := bs_put_writtenRoot w (bs_put_takenCount t (bs_put_takenPages a2 (bs_put_takenPages a1 st)))
theorem acS_f (a1 a2 : Nat → Int32) (t w : Int32) (st : BSt) : bs_P (acS a1 a2 t w st) = bs_P st ∧ bs_pages (acS a1 a2 t w st) = bs_pages st ∧ bs_roots (acS a1 a2 t w st) = bs_roots st ∧ bs_newest (acS a1 a2 t w st) = bs_newest st ∧ bs_closed (acS a1 a2 t w st) = bs_closed st ∧ bs_takenPages (acS a1 a2 t w st) = a2 ∧ bs_takenCount (acS a1 a2 t w st) = t ∧ bs_writtenRoot (acS a1 a2 t w st) = w ∧ bs_draftKeys (acS a1 a2 t w st) = bs_draftKeys st ∧ bs_draftValues (acS a1 a2 t w st) = bs_draftValues st ∧ bs_draftCount (acS a1 a2 t w st) = bs_draftCount st := ⟨rfl, rfl, rfl, rfl, rfl, rfl, rfl, rfl, rfl, rfl, rfl⟩
def acE (w : Int32) (st : BSt) : BSt := bs_put_canBeCut 1 (bs_put_newest w st)
theorem acE_f (w : Int32) (st : BSt) : bs_P (acE w st) = bs_P st ∧ bs_pages (acE w st) = bs_pages st ∧ bs_roots (acE w st) = bs_roots st ∧ bs_newest (acE w st) = w ∧ bs_closed (acE w st) = bs_closed st ∧ bs_takenPages (acE w st) = bs_takenPages st ∧ bs_takenCount (acE w st) = bs_takenCount st ∧ bs_writtenRoot (acE w st) = bs_writtenRoot st ∧ bs_wordsBefore (acE w st) = bs_wordsBefore st ∧ bs_canBeCut (acE w st) = 1 := ⟨rfl, rfl, rfl, rfl, rfl, rfl, rfl, rfl, rfl, rfl⟩
/-- what an ACT has done -/
abbrev ACs (st st' : BSt) (v L lb c T : Nat) (pl cnt pg : Nat → Nat) (E : Int64) : Prop := (bs_P st' = bs_P st) ∧ (bs_newest st' = nI (v + 1)) ∧ (bs_closed st' = bs_closed st) ∧ (bs_canBeCut st' = 1) ∧ (bs_takenCount st' = nI T) ∧ (∀ k, k < T → bs_takenPages st' k = nI (pg k)) ∧ (bs_writtenRoot st' = nI ((v + 1) % 8)) ∧ (∀ i, i < 16 * T + 20 → bs_wordsBefore st' i = cw (bs_pages st) (bs_roots st) (adr T ((v + 1) % 8) pg i)) ∧ (∀ x, bs_pages st' x = Gj (bs_pages st) T c pg (bs_draftKeys st) (bs_draftValues st) T x) ∧ (∀ x, bs_roots st' x = if 20 * ((v + 1) % 8) ≤ x ∧ x < 20 * ((v + 1) % 8) + 20 then rootV (v + 1) (lb + T + (L - (lb + 1))) (nlf lb T pl pg) E (x - 20 * ((v + 1) % 8)) else bs_roots st x)
theorem ACs.P {st st' : BSt} {v L lb c T : Nat} {pl cnt pg : Nat → Nat} {E : Int64} (h : ACs st st' v L lb c T pl cnt pg E) : bs_P st' = bs_P st := h.1
theorem ACs.nw {st st' : BSt} {v L lb c T : Nat} {pl cnt pg : Nat → Nat} {E : Int64} (h : ACs st st' v L lb c T pl cnt pg E) : bs_newest st' = nI (v + 1) := h.2.1
theorem ACs.cl {st st' : BSt} {v L lb c T : Nat} {pl cnt pg : Nat → Nat} {E : Int64} (h : ACs st st' v L lb c T pl cnt pg E) : bs_closed st' = bs_closed st := h.2.2.1
theorem ACs.cb {st st' : BSt} {v L lb c T : Nat} {pl cnt pg : Nat → Nat} {E : Int64} (h : ACs st st' v L lb c T pl cnt pg E) : bs_canBeCut st' = 1 := h.2.2.2.1
theorem ACs.tc {st st' : BSt} {v L lb c T : Nat} {pl cnt pg : Nat → Nat} {E : Int64} (h : ACs st st' v L lb c T pl cnt pg E) : bs_takenCount st' = nI T := h.2.2.2.2.1
theorem ACs.tp {st st' : BSt} {v L lb c T : Nat} {pl cnt pg : Nat → Nat} {E : Int64} (h : ACs st st' v L lb c T pl cnt pg E) : ∀ k, k < T → bs_takenPages st' k = nI (pg k) := h.2.2.2.2.2.1
theorem ACs.wr {st st' : BSt} {v L lb c T : Nat} {pl cnt pg : Nat → Nat} {E : Int64} (h : ACs st st' v L lb c T pl cnt pg E) : bs_writtenRoot st' = nI ((v + 1) % 8) := h.2.2.2.2.2.2.1
theorem ACs.wb {st st' : BSt} {v L lb c T : Nat} {pl cnt pg : Nat → Nat} {E : Int64} (h : ACs st st' v L lb c T pl cnt pg E) : ∀ i, i < 16 * T + 20 → bs_wordsBefore st' i = cw (bs_pages st) (bs_roots st) (adr T ((v + 1) % 8) pg i) := h.2.2.2.2.2.2.2.1
theorem ACs.gg {st st' : BSt} {v L lb c T : Nat} {pl cnt pg : Nat → Nat} {E : Int64} (h : ACs st st' v L lb c T pl cnt pg E) : ∀ x, bs_pages st' x = Gj (bs_pages st) T c pg (bs_draftKeys st) (bs_draftValues st) T x := h.2.2.2.2.2.2.2.2.1
theorem ACs.rt {st st' : BSt} {v L lb c T : Nat} {pl cnt pg : Nat → Nat} {E : Int64} (h : ACs st st' v L lb c T pl cnt pg E) : ∀ x, bs_roots st' x = if 20 * ((v + 1) % 8) ≤ x ∧ x < 20 * ((v + 1) % 8) + 20 then rootV (v + 1) (lb + T + (L - (lb + 1))) (nlf lb T pl pg) E (x - 20 * ((v + 1) % 8)) else bs_roots st x := h.2.2.2.2.2.2.2.2.2
theorem fb_act_111E {n : Nat} {st : BSt} {v L lb c T : Nat} {pl cnt pg : Nat → Nat} (h : AC (bs_P st) (bs_pages st) (bs_roots st) v L lb c T pl cnt) (hd : bs_draftCount st = nI c) (hnw : bs_newest st = nI v) {x2 : Int32} (hx : x2 = if L = 0 then -1 else nI lb) (hN : lb + T + (L - (lb + 1)) ≤ 16) (hpg : PgS (hld (bs_P st) (bs_roots st) (bs_newest st).toInt64) (bs_P st) T pg) (hn : 70 < n) {E : Int64} (hE : E = (((bs_roots st (20 * (v % 8) + 18)).toInt32 - (if L = 0 then 0 else nI (cnt lb))) + nI c).toInt64) :
    ∃ st', fb_act_111 n st (nI (v % 8)) x2 (nI T) (tkI T pg 0) (tkI T pg 1) = some (.inl (nI (v + 1)), st') ∧ ACs st st' v L lb c T pl cnt pg E := by
  have hP := h.p64
  have hT2 : T ≤ 2 := by rcases h.cT with h1 | h1 | h1 <;> omega
  have h16 := h.rr.l16
  have hv := h.v31
  have hlb : lb ≤ L := by rcases h.lb with h1 | h1 <;> omega
  have hlt := hpg.lt hT2
  have hv31 : v < 2 ^ 31 := by omega
  have hnl : bs_roots st (20 * (v % 8)) ≤ (bs_newest st).toInt64 := by rw [h.tv, hnw, nI_l hv31]; exact Int64.le_refl _
  have htk : ∀ i, tkI T pg i ≠ -1 := by
    intro i
    unfold tkI
    by_cases c : i < T
    · rw [if_pos c]; exact nI_m1 (by have := (hlt i c).1; omega)
    · rw [if_neg c]; decide
  obtain ⟨r', hr', hx1, hm⟩ := fb_root n (nI (v + 1))
  have er' : r' = (v + 1) % 8 := hm (v + 1) (by omega) rfl
  rw [er'] at hx1 hr'
  generalize hS : acS (upd (bs_takenPages st) 0 (tkI T pg 0)) (upd (upd (bs_takenPages st) 0 (tkI T pg 0)) 1 (tkI T pg 1)) (nI T) (nI ((v + 1) % 8)) st = s0
  obtain ⟨a1, a2, a3, a4, a5, a6, a7, a8, a9, a10, a11⟩ := acS_f (upd (bs_takenPages st) 0 (tkI T pg 0)) (upd (upd (bs_takenPages st) 0 (tkI T pg 0)) 1 (tkI T pg 1)) (nI T) (nI ((v + 1) % 8)) st
  rw [hS] at a1 a2 a3 a4 a5 a6 a7 a8 a9 a10 a11
  have htp : ∀ k, k < T → bs_takenPages s0 k = nI (pg k) := by
    intro k hk
    rw [a6]
    rcases (show k = 0 ∨ k = 1 by omega) with rfl | rfl
    · rw [pk_un (by omega), pk_us]; unfold tkI; rw [if_pos hk]
    · rw [pk_us]; unfold tkI; rw [if_pos hk]
  obtain ⟨s1, e1, f1, w1⟩ := fb_sv (n := n) (st := s0) (pl := pg) hT2 hr' (by rw [a1]; exact hP) (fun k hk => by rw [a1]; exact (hlt k hk).1) a7 htp a8 (by omega)
  obtain ⟨s2, e2, f2, g2⟩ := fb_wls (n := n) (st := s1) (T := T) (c := c) (pg := pg) (by rw [f1.P, a1]; exact hP) h.cT (by rw [f1.dc, a11]; exact hd) (by rw [f1.tc]; exact a7) (fun k hk => by rw [f1.tp]; exact htp k hk) (fun k hk => by rw [f1.P, a1]; exact (hlt k hk).1) (by omega)
  have rt2 : bs_roots s2 = bs_roots st := by rw [f2.rt, f1.rt, a3]
  have pgs : ∀ x, bs_pages s2 x = Gj (bs_pages st) T c pg (bs_draftKeys st) (bs_draftValues st) T x := by
    intro x; rw [g2, f1.pg, f1.dk, f1.dv, a2, a9, a10]
  have wc : WRc s2 (v % 8) ((v + 1) % 8) L lb T (v + 1) pl pg := by
    refine ⟨by omega, hr', by omega, h16, hlb, hT2, hN, fun i hi => ?_, fun i hi => ?_, by rw [rt2]; exact h.rr.lv, fun i hi => by rw [rt2]; exact h.rr.pq i hi, by rw [f2.tc, f1.tc]; exact a7, fun i hi => by rw [f2.tp, f1.tp]; exact htp i hi, by rw [f2.nw, f1.nw, a4, hnw, nI_1], by omega⟩
    · have := h.rr.pp i hi; omega
    · have := (hlt i hi).1; omega
  have hwr2 : bs_writtenRoot s2 = nI ((v + 1) % 8) := by rw [f2.wr, f1.wr]; exact a8
  have go : ∃ s3, fb_writeRoot n s2 (nI (v % 8)) x2 = some s3 ∧ FrR s2 s3 ∧ ∀ x, bs_roots s3 x = if 20 * ((v + 1) % 8) ≤ x ∧ x < 20 * ((v + 1) % 8) + 20 then rootV (v + 1) (lb + T + (L - (lb + 1))) (nlf lb T pl pg) E (x - 20 * ((v + 1) % 8)) else bs_roots s2 x := by
    have hdc : bs_draftCount s2 = nI c := by rw [f2.dc, f1.dc, a11]; exact hd
    have hE2 : ∀ y : Int32, y = (if L = 0 then 0 else nI (cnt lb)) → E = (((bs_roots s2 (20 * (v % 8) + 18)).toInt32 - y) + bs_draftCount s2).toInt64 := by
      intro y hy; rw [rt2, hdc, hy]; exact hE
    rw [fb_writeRoot, hwr2, lt32 20, pk_mul, Nat.mul_comm ((v + 1) % 8) 20]
    by_cases c0 : L = 0
    · have l0 : lb = 0 := by omega
      rw [hx, if_pos c0, if_pos rfl]
      exact fb_wr27 wc (hE2 0 (by rw [if_pos c0])) (by omega) hwr2 (Or.inl ⟨rfl, l0⟩)
    · have hl : lb < L := by rcases h.lb with h1 | h1 <;> omega
      have hpl := h.rr.pp lb hl
      have e16 : bs_pages s2 (16 * pl lb) = lN (cnt lb) := by
        rw [pgs, Gj_out T (fun k hk q => ?_)]
        · exact h.rr.cg lb hl
        · have h1 := h.rr.held h.sn (by omega) hnl hl
          have h2 := (hlt k hk).2
          have h3 : pg k = pl lb := by omega
          rw [h3, h1] at h2; cases h2
      rw [hx, if_neg c0, if_neg (nI_m1 (by omega)), fb_pageOfE (by omega) (by omega), bind_s, wc.pq lb hl, lN_i, fb_entriesE (by rw [f2.P, f1.P, a1]; exact hpl) (by rw [f2.P, f1.P, a1]; exact hP), bind_s, e16, lN_i]
      exact fb_wr27 wc (hE2 (nI (cnt lb)) (by rw [if_neg c0])) (by omega) hwr2 (Or.inr rfl)
  obtain ⟨s3, e3, f3, g3⟩ := go
  have nw3 : bs_newest s3 + 1 = nI (v + 1) := by rw [f3.nw, f2.nw, f1.nw, a4, hnw, nI_1]
  obtain ⟨b1, b2, b3, b4, b5, b6, b7, b8, b9, b10⟩ := acE_f (nI (v + 1)) s3
  refine ⟨acE (nI (v + 1)) s3, ?_, ?_⟩
  · rw [fb_act_111, if_neg (htk 0), if_neg (htk 1), show (0 : Int32) = nI 0 from rfl, wrI_n (by omega) (by omega), bind_s, show (1 : Int32) = nI 1 from rfl, wrI_n (by omega) (by omega), bind_s, hnw, nI_add, hx1, bind_s, show bs_put_writtenRoot (nI ((v + 1) % 8)) (bs_put_takenCount (nI T) (bs_put_takenPages (upd (upd (bs_takenPages st) 0 (tkI T pg 0)) 1 (tkI T pg 1)) (bs_put_takenPages (upd (bs_takenPages st) 0 (tkI T pg 0)) st))) = s0 from hS, e1, bind_s, e2, bind_s, e3, bind_s, ← lt32 1, nw3]; rfl
  · exact ⟨by rw [b1, f3.P, f2.P, f1.P, a1], b4, by rw [b5, f3.cl, f2.cl, f1.cl, a5], b10, by rw [b7, f3.tc, f2.tc, f1.tc]; exact a7, fun k hk => by rw [b6, f3.tp, f2.tp, f1.tp]; exact htp k hk, by rw [b8, f3.wr]; exact hwr2, fun i hi => by rw [b9, f3.wb, f2.wb, w1 i hi, a2, a3], fun x => by rw [b2, f3.pg]; exact pgs x, fun x => by rw [b3, g3, rt2]⟩
