/-! clearing a root; root 0 anew -/
theorem fb_clr_go (n : Nat) {r : Nat} (hr : r < 8) (m : Nat) : ∀ (k j : Nat) (st : BSt), j + m = 20 → m < k → ∃ Q, fb_clearRoot_7 n k st (nI (20 * r)) (nI j) = some (bs_put_roots Q st) ∧ ∀ i, Q i = if 20 * r + j ≤ i ∧ i < 20 * r + 20 then 0 else bs_roots st i := by
  induction m with
  | zero =>
    intro k j st h1 h3
    obtain ⟨k, rfl⟩ : ∃ i, k = i + 1 := ⟨k - 1, by omega⟩
    obtain rfl : j = 20 := by omega
    refine ⟨bs_roots st, ?_, fun i => ?_⟩
    · rw [fb_clearRoot_7, if_pos (by decide)]; rfl
    · rw [if_neg (by omega)]
  | succ m ih =>
    intro k j st h1 h3
    obtain ⟨k, rfl⟩ : ∃ i, k = i + 1 := ⟨k - 1, by omega⟩
    obtain ⟨Q, hQ, hq⟩ := ih k (j + 1) (bs_put_roots (vp_updL (bs_roots st) (20 * r + j) 0) st) (by omega) (by omega)
    refine ⟨Q, ?_, fun i => ?_⟩
    · rw [fb_clearRoot_7, if_neg (by rw [lt32 20, nI_leI (by omega) (by omega)]; omega), nI_add, wrL_n (by omega) (by omega), bind_s, nI_1, hQ]; rfl
    · rw [hq i]
      show (if _ then _ else vp_updL (bs_roots st) (20 * r + j) 0 i) = _
      unfold vp_updL
      by_cases c : i = 20 * r + j
      · rw [if_neg (by omega), if_pos c, if_pos (by omega)]
      · by_cases c2 : 20 * r + j ≤ i ∧ i < 20 * r + 20
        · rw [if_pos (by omega), if_pos c2]
        · rw [if_neg (by omega), if_neg c, if_neg c2]
theorem fb_clr {n r : Nat} {st : BSt} (hr : r < 8) (hn : 20 < n) : ∃ Q, fb_clearRoot n st (nI r) = some (bs_put_roots Q st) ∧ ∀ i, Q i = if 20 * r ≤ i ∧ i < 20 * r + 20 then 0 else bs_roots st i := by
  obtain ⟨Q, hQ, hq⟩ := fb_clr_go n hr 20 n 0 st (by omega) (by omega)
  exact ⟨Q, by rw [fb_clearRoot, lt32 20, pk_mul, Nat.mul_comm r 20]; exact hQ, hq⟩
def sum0 : Int64 := sumN (fun _ => 0) 0 19
theorem fb_rz {n : Nat} {st : BSt} (hn : 20 < n) : ∃ Q, fb_makeRootZeroAnew n st = some (bs_put_roots Q st) ∧ ∀ i, Q i = if i < 19 then 0 else if i = 19 then sum0 else bs_roots st i := by
  obtain ⟨Q, hQ, hq⟩ := fb_clr (st := st) (n := n) (r := 0) (by omega) hn
  refine ⟨vp_updL Q 19 sum0, ?_, fun i => ?_⟩
  · have e : sumN Q 0 19 = sum0 := sumN_congr (fun i hi => by rw [hq (0 + i), if_pos (by omega)])
    rw [fb_makeRootZeroAnew, show (0 : Int32) = nI 0 from rfl, hQ, bind_s, lt32 19]
    show (fb_sumOf n Q 160 (nI 0) (nI 19)).bind _ = _
    rw [fb_sum (by omega) (by omega) (by omega), bind_s, e]
    show (wrL Q 160 (nI 19) sum0).bind _ = _
    rw [wrL_n (by omega) (by omega), bind_s]; rfl
  · unfold vp_updL
    by_cases c : i = 19
    · rw [if_pos c, if_neg (by omega), if_pos c]
    · rw [if_neg c, hq i]
      by_cases c2 : i < 19
      · rw [if_pos (by omega), if_pos c2]
      · rw [if_neg (by omega), if_neg c2, if_neg c]
theorem fm_rz_go (n : Nat) (hn : 20 < n) (m : Nat) : ∀ (k j : Nat) (st : MSt), j + m = 19 → m < k → (∀ i, i < j → qbs_words st (1024 + i) = 0) → ∃ W, fm_reopen_101 n k st (nI j) = some (0, qbs_put_written (-1) (qbs_put_closed 0 (qbs_put_newest 0 (qbs_put_words W st)))) ∧ ∀ i, W i = if 1024 ≤ i ∧ i < 1043 then 0 else if i = 1043 then sum0 else qbs_words st i := by
  induction m with
  | zero =>
    intro k j st h1 h3 hz
    obtain ⟨k, rfl⟩ : ∃ i, k = i + 1 := ⟨k - 1, by omega⟩
    obtain rfl : j = 19 := by omega
    have e : sumN (qbs_words st) 1024 19 = sum0 := sumN_congr (fun i hi => hz i hi)
    refine ⟨vp_updL (qbs_words st) 1043 sum0, ?_, fun i => ?_⟩
    · rw [fm_reopen_101, if_pos (by decide), lt32 1024, lt32 19, fm_sumE (by omega) (by omega), bind_s, e, lt32 1043, wrL_n (by omega) (by omega), bind_s]
    · unfold vp_updL
      by_cases c : i = 1043
      · rw [if_pos c, if_neg (by omega)]
      · by_cases c2 : 1024 ≤ i ∧ i < 1043
        · rw [if_neg c, if_pos c2, show i = 1024 + (i - 1024) by omega]; exact hz _ (by omega)
        · rw [if_neg c, if_neg c2]
  | succ m ih =>
    intro k j st h1 h3 hz
    obtain ⟨k, rfl⟩ : ∃ i, k = i + 1 := ⟨k - 1, by omega⟩
    obtain ⟨W, hW, hw⟩ := ih k (j + 1) (qbs_put_words (vp_updL (qbs_words st) (1024 + j) 0) st) (by omega) (by omega) (fun i hi => by
      show vp_updL (qbs_words st) (1024 + j) 0 (1024 + i) = 0
      unfold vp_updL; split
      · rfl
      · exact hz i (by omega))
    refine ⟨W, ?_, fun i => ?_⟩
    · rw [fm_reopen_101, if_neg (by rw [lt32 19, nI_leI (by omega) (by omega)]; omega), lt32 1024, nI_add, wrL_n (by omega) (by omega), bind_s, nI_1, hW]; rfl
    · rw [hw i]
      show (if _ then _ else if _ then _ else vp_updL (qbs_words st) (1024 + j) 0 i) = _
      by_cases c2 : 1024 ≤ i ∧ i < 1043
      · rw [if_pos c2, if_pos c2]
      · rw [if_neg c2, if_neg c2, pk_uLn (by omega)]
theorem sw_rz {P : Nat} {g q w Q W : Nat → Int64} (h : SameW P g q w) (hP : P ≤ 64) (hQ : ∀ i, Q i = if i < 19 then 0 else if i = 19 then sum0 else q i) (hW : ∀ i, W i = if 1024 ≤ i ∧ i < 1043 then 0 else if i = 1043 then sum0 else w i) : SameW P g Q W := by
  refine ⟨fun i hi => ?_, fun i hi => ?_⟩
  · rw [hW i, if_neg (by omega), if_neg (by omega)]; exact h.1 i hi
  · unfold rtw
    rw [hQ i, hW (1024 + i)]
    by_cases c : i < 19
    · rw [if_pos c, if_pos (by omega)]
    · by_cases c2 : i = 19
      · rw [if_neg c, if_pos c2, if_neg (by omega), if_pos (by omega)]
      · rw [if_neg c, if_neg c2, if_neg (by omega), if_neg (by omega)]; exact h.2 i hi
/-! OPENED: the greatest version that is whole -/
def o2l (o : Option Nat) : Int64 := match o with | none => -1 | some p => lN p
def ogt (x : Int64) (o : Option Nat) : Bool := match o with | none => true | some u => decide (lN u < x)
def gwC (P : Nat) (g q : Nat → Int64) (r : Nat) (o : Option Nat) : Bool := decide (0 ≤ q (20 * r)) && (decide (q (20 * r) ≤ 1000000000) && (decide (cN (q (20 * r)) % 8 = r) && (ogt (q (20 * r)) o && rrt P g q r)))
def gwGo (P : Nat) (g q : Nat → Int64) : Nat → Nat → Option Nat → Option Nat
  | 0, _, o => o
  | m + 1, r, o => gwGo P g q m (r + 1) (if gwC P g q r o = true then some (cN (q (20 * r))) else o)
def oB (o : Option Nat) : Prop := ∀ u, o = some u → u ≤ 1000000000
theorem gwC_v {P : Nat} {g q : Nat → Int64} {r : Nat} {o : Option Nat} (h : gwC P g q r o = true) : oB (some (cN (q (20 * r)))) := by
  intro u hu
  cases hu
  simp only [gwC, Bool.and_eq_true, decide_eq_true_eq] at h
  obtain ⟨c, hc, he⟩ := l_cnt (M := 1000000000) (Int64.not_lt.mpr h.1) h.2.1 (by omega)
  rw [he, cN_lN (by omega)]; exact hc
theorem gwGo_b {P : Nat} {g q : Nat → Int64} (m : Nat) : ∀ r o, oB o → oB (gwGo P g q m r o) := by
  induction m with
  | zero => intro r o h; exact h
  | succ m ih =>
    intro r o h
    rw [gwGo]
    apply ih
    split
    · rename_i c; exact gwC_v c
    · exact h
theorem gwGo_congr {P : Nat} {g q w : Nat → Int64} (hP : P ≤ 64) (h : SameW P g q w) (m : Nat) : ∀ r o, r + m ≤ 8 → gwGo P g q m r o = gwGo P w (rtw w) m r o := by
  induction m with
  | zero => intro r o _; rfl
  | succ m ih =>
    intro r o hr
    rw [gwGo, gwGo, ih _ _ (by omega)]
    have hq : q (20 * r) = rtw w (20 * r) := h.2 _ (by omega)
    have : gwC P g q r o = gwC P w (rtw w) r o := by unfold gwC; rw [hq, rrt_congr hP h (by omega)]
    rw [this, hq]
theorem ogt_neg {x : Int64} {o : Option Nat} (ho : oB o) (hx : ¬ 0 ≤ x) : x ≤ o2l o := by
  have hx' : x.toInt < 0 := by
    rw [Int64.le_iff_toInt_le, Int64.toInt_zero] at hx; omega
  rw [Int64.le_iff_toInt_le]
  cases o with
  | none => show x.toInt ≤ (-1 : Int64).toInt; rw [show (-1 : Int64).toInt = -1 from by decide]; omega
  | some u => show x.toInt ≤ (lN u).toInt; rw [lN_toInt (by have := ho u rfl; omega)]; omega
theorem ogt_l {x : Int64} {o : Option Nat} (hx : 0 ≤ x) : ogt x o = false ↔ x ≤ o2l o := by
  cases o with
  | none =>
    rw [Int64.le_iff_toInt_le, Int64.toInt_zero] at hx
    rw [Int64.le_iff_toInt_le]
    show true = false ↔ x.toInt ≤ (-1 : Int64).toInt
    rw [show (-1 : Int64).toInt = -1 from by decide]
    constructor
    · intro h; cases h
    · intro h; omega
  | some u => show decide _ = false ↔ _; rw [decide_eq_false_iff_not, Int64.not_lt]; rfl
theorem o2l_i {o : Option Nat} : (o2l o).toInt32 = o2i o := by
  cases o with
  | none => decide
  | some u => exact lN_i u
theorem o2i_l {o : Option Nat} (h : oB o) : (o2i o).toInt64 = o2l o := by
  cases o with
  | none => decide
  | some u => exact nI_l (by have := h u rfl; omega)
theorem fb_gw_go (n : Nat) (st : BSt) (hP : bs_P st ≤ 64) (hn : 20 < n) (m : Nat) : ∀ (k r : Nat) (o : Option Nat), r + m = 8 → m < k → oB o →
    fb_greatestWhole_6 n k st (o2l o) (nI r) = some (o2i (gwGo (bs_P st) (bs_pages st) (bs_roots st) m r o)) := by
  induction m with
  | zero =>
    intro k r o h1 h3 ho
    obtain ⟨k, rfl⟩ : ∃ i, k = i + 1 := ⟨k - 1, by omega⟩
    obtain rfl : r = 8 := by omega
    rw [fb_greatestWhole_6, if_pos (by decide), o2l_i]; rfl
  | succ m ih =>
    intro k r o h1 h3 ho
    obtain ⟨k, rfl⟩ : ∃ i, k = i + 1 := ⟨k - 1, by omega⟩
    have hr : r < 8 := by omega
    have skip : gwC (bs_P st) (bs_pages st) (bs_roots st) r o = false → fb_greatestWhole_6 n k st (o2l o) (nI r + 1) = some (o2i (gwGo (bs_P st) (bs_pages st) (bs_roots st) (m + 1) r o)) := by
      intro h
      rw [nI_1, ih k (r + 1) o (by omega) (by omega) ho, gwGo, h]; rfl
    rw [fb_greatestWhole_6, if_neg (by rw [lt32 8, nI_leI (by omega) (by omega)]; omega), lt32 20, pk_mul, Nat.mul_comm r 20, rdL_n (by omega) (by omega), bind_s]
    by_cases c0 : 0 ≤ bs_roots st (20 * r)
    · cases c1 : ogt (bs_roots st (20 * r)) o with
      | false =>
        rw [if_pos (lgc_le.mpr ((ogt_l c0).mp c1))]
        exact skip (by simp [gwC, c1])
      | true =>
        rw [if_neg (fun h => by have := (ogt_l (o := o) c0).mpr (lgc_le.mp h); rw [c1] at this; cases this)]
        by_cases c2 : bs_roots st (20 * r) ≤ 1000000000
        · rw [if_neg (fun h => absurd (lgc_gt.mp h) (Int64.not_lt.mpr c2))]
          obtain ⟨u, hu, he⟩ := l_cnt (M := 1000000000) (Int64.not_lt.mpr c0) c2 (by omega)
          obtain ⟨r', hr', hx, hm⟩ := fb_root n (nI u)
          have hu8 := hm u (by omega) rfl
          rw [he, lN_i, hx, bind_s]
          by_cases c3 : u % 8 = r
          · have e : r' = r := by omega
            rw [if_pos (by rw [e]), fb_rrt hr hP hn, bind_s]
            cases c4 : rrt (bs_P st) (bs_pages st) (bs_roots st) r with
            | false => rw [if_pos (show b2i false = 0 from rfl)]; exact skip (by simp [gwC, c4])
            | true =>
              have hC : gwC (bs_P st) (bs_pages st) (bs_roots st) r o = true := by
                simp only [gwC, c1, c4, Bool.and_true, Bool.and_eq_true, decide_eq_true_eq]
                exact ⟨c0, c2, by rw [he, cN_lN (by omega)]; exact c3⟩
              rw [if_neg (by decide), nI_1, gwGo, hC, if_pos rfl, he, cN_lN (by omega)]
              exact ih k (r + 1) (some u) (by omega) (by omega) (fun x hx => by cases hx; exact hu)
          · rw [if_neg (fun h => c3 (by have := (nI_eq (by omega) (by omega)).mp h; omega))]
            exact skip (by simp [gwC, he, cN_lN (show u < 2 ^ 31 by omega), c3])
        · rw [if_pos (lgc_gt.mpr (Int64.not_le.mp c2))]
          exact skip (by simp [gwC, c2])
    · rw [if_pos (lgc_le.mpr (ogt_neg ho c0))]
      exact skip (by simp [gwC, c0])
theorem fm_gw_go (n : Nat) {P : Nat} (h0 : 0 < P) (hP : P ≤ 64) (hn : 20 < n) (m : Nat) : ∀ (k r : Nat) (o : Option Nat) (st : MSt), qbs_pages st = nI P → r + m = 8 → oB o → qbs_newest st = o2i o →
    fm_reopen_12 n (k + m) st (nI r) = fm_reopen_12 n k (qbs_put_newest (o2i (gwGo P (qbs_words st) (rtw (qbs_words st)) m r o)) st) 8 := by
  induction m with
  | zero =>
    intro k r o st hp h1 ho hv
    obtain rfl : r = 8 := by omega
    rw [gwGo, ← hv]; rfl
  | succ m ih =>
    intro k r o st hp h1 ho hv
    have hr : r < 8 := by omega
    have hx : rtw (qbs_words st) (20 * r) = qbs_words st (1024 + 20 * r) := rfl
    have go : ∀ (o' : Option Nat), oB o' → (if gwC P (qbs_words st) (rtw (qbs_words st)) r o = true then some (cN (rtw (qbs_words st) (20 * r))) else o) = o' → fm_reopen_12 n (k + m) (qbs_put_newest (o2i o') st) (nI r + 1) = fm_reopen_12 n k (qbs_put_newest (o2i (gwGo P (qbs_words st) (rtw (qbs_words st)) (m + 1) r o)) st) 8 := by
      intro o' hb ho'
      rw [nI_1, ih k (r + 1) o' (qbs_put_newest (o2i o') st) hp (by omega) hb rfl, gwGo, ho']; rfl
    have skip : gwC P (qbs_words st) (rtw (qbs_words st)) r o = false → fm_reopen_12 n (k + m) (qbs_put_newest (qbs_newest st) st) (nI r + 1) = fm_reopen_12 n k (qbs_put_newest (o2i (gwGo P (qbs_words st) (rtw (qbs_words st)) (m + 1) r o)) st) 8 := by
      intro h
      rw [hv]
      exact go o ho (by rw [h]; rfl)
    rw [show k + (m + 1) = (k + m) + 1 from rfl, fm_reopen_12, if_neg (by rw [lt32 8, nI_leI (by omega) (by omega)]; omega), lt32 20, lt32 1024, pk_mul, nI_add, rdL_n (by omega) (by omega), bind_s, fm_isInE, bind_s, ← hx]
    by_cases c0 : 0 ≤ rtw (qbs_words st) (20 * r)
    · by_cases c2 : rtw (qbs_words st) (20 * r) ≤ 1000000000
      · obtain ⟨u, hu, he⟩ := l_cnt (M := 1000000000) (Int64.not_lt.mpr c0) c2 (by omega)
        rw [if_neg (by simp [c0, c2, b2i]), he, lt64 8, pk_lRem (by omega) (by omega) (by omega), nI_l (by omega)]
        by_cases c3 : u % 8 = r
        · rw [if_pos (lgc_eq.mpr (by rw [c3])), hv, o2i_l ho, ← he]
          cases c1 : ogt (rtw (qbs_words st) (20 * r)) o with
          | false => rw [if_pos (lgc_le.mpr ((ogt_l c0).mp c1)), ← hv]; exact skip (by simp [gwC, c1])
          | true =>
            rw [if_neg (fun h => by have := (ogt_l (o := o) c0).mpr (lgc_le.mp h); rw [c1] at this; cases this), fm_rrt hr h0 hP hp hn, bind_s]
            cases c4 : rrt P (qbs_words st) (rtw (qbs_words st)) r with
            | false => rw [if_pos (show b2i false = 0 from rfl), ← hv]; exact skip (by simp [gwC, c4])
            | true =>
              have hC : gwC P (qbs_words st) (rtw (qbs_words st)) r o = true := by
                simp only [gwC, c1, c4, Bool.and_true, Bool.and_eq_true, decide_eq_true_eq]
                exact ⟨c0, c2, by rw [he, cN_lN (by omega)]; exact c3⟩
              rw [if_neg (by decide), he, lN_i]
              exact go (some u) (fun x hx => by cases hx; exact hu) (by rw [hC, if_pos rfl, he, cN_lN (by omega)])
        · rw [if_neg (fun h => c3 ((lN_eq (by omega) (by omega)).mp (lgc_eq.mp h)))]
          exact skip (by simp [gwC, he, cN_lN (show u < 2 ^ 31 by omega), c3])
      · rw [if_pos (by simp [c2, b2i])]; exact skip (by simp [gwC, c2])
    · rw [if_pos (by simp [c0, b2i])]; exact skip (by simp [gwC, c0])
theorem pr_10 : ps_10 Rel := by
  intro d st ms h
  have hp8 := h.p8
  have hp64 := h.p64
  have hd := h.dd
  have hb : oB (gwGo (bs_P st) (bs_pages st) (bs_roots st) 8 0 none) := gwGo_b 8 0 none (fun u hu => by cases hu)
  have e1 := fb_gw_go 100 st h.p64 (by omega) 8 100 0 none (by omega) (by omega) (fun u hu => by cases hu)
  have e2 := fm_gw_go 100 (show 0 < bs_P st by omega) h.p64 (by omega) 8 92 0 none (qbs_put_newest (-1) (qbs_put_thrown 0 ms)) h.pg (by omega) (fun u hu => by cases hu) rfl
  have e3 : gwGo (bs_P st) (qbs_words ms) (rtw (qbs_words ms)) 8 0 none = gwGo (bs_P st) (bs_pages st) (bs_roots st) 8 0 none := (gwGo_congr h.p64 h.sw 8 0 none (by omega)).symm
  have e2' : fm_reopen 100 ms = fm_reopen_12 100 92 (qbs_put_newest (o2i (gwGo (bs_P st) (bs_pages st) (bs_roots st) 8 0 none)) (qbs_put_thrown 0 ms)) 8 := by
    rw [← e3]; exact e2
  cases ho : gwGo (bs_P st) (bs_pages st) (bs_roots st) 8 0 none with
  | none =>
    rw [ho] at e1 e2'
    obtain ⟨Q, hQ, hq⟩ := fb_rz (st := st) (n := 100) (by omega)
    obtain ⟨W, hW, hw⟩ := fm_rz_go 100 (by omega) 19 100 0 (qbs_put_newest (-1) (qbs_put_thrown 0 ms)) (by omega) (by omega) (fun i hi => by omega)
    refine ⟨100, 100, bs_put_canBeCut 0 (bs_put_closed 0 (bs_put_newest 0 (bs_put_roots Q st))), qbs_put_written (-1) (qbs_put_closed 0 (qbs_put_newest 0 (qbs_put_words W (qbs_put_newest (-1) (qbs_put_thrown 0 ms))))), 0, ?_, e2'.trans ?_, ?_⟩
    · rw [fb_reopen, fb_greatestWhole, show fb_greatestWhole_6 100 100 st (-1) 0 = _ from e1, bind_s, if_pos (show o2i none = -1 from rfl), hQ, bind_s]
    · rw [fm_reopen_12, if_pos (by decide)]
      show (if (-1 : Int32) = -1 then _ else _) = _
      rw [if_pos rfl]
      exact hW
    · exact ⟨by omega, h.p8, h.p64, h.pg, sw_rz h.sw h.p64 hq hw, ⟨0, by omega, rfl, rfl⟩, rfl, Or.inl ⟨rfl, Or.inl rfl⟩⟩
  | some u =>
    rw [ho] at e1 e2' hb
    have hu := hb u rfl
    refine ⟨100, 100, bs_put_canBeCut 0 (bs_put_closed 0 (bs_put_newest (nI u) st)), qbs_put_written (-1) (qbs_put_closed 0 (qbs_put_newest (nI u) (qbs_put_thrown 0 ms))), nI u, ?_, e2'.trans ?_, ?_⟩
    · rw [fb_reopen, fb_greatestWhole, show fb_greatestWhole_6 100 100 st (-1) 0 = _ from e1, bind_s]
      show (if nI u = -1 then _ else _) = _
      rw [if_neg (nI_m1 (by omega))]; rfl
    · rw [fm_reopen_12, if_pos (by decide)]
      show (if nI u = -1 then _ else _) = _
      rw [if_neg (nI_m1 (by omega))]; rfl
    · exact ⟨by omega, h.p8, h.p64, h.pg, h.sw, ⟨u, by omega, rfl, rfl⟩, rfl, Or.inl ⟨rfl, Or.inl rfl⟩⟩
/-- the two new objects are related -/
theorem pr_i (d : Nat) (hd : d ≤ 512) : ∀ (x : Int32) (P : Nat), 8 ≤ P → P ≤ 64 → clM x = nI P → ∃ (n : Nat) (st' : BSt) (r : Int64), fb_makeRootZeroAnew n (fB0 P) = some st' ∧ fm_sum n (fM0 (clM x)) 1024 19 = some r ∧ Rel d st' (newM (clM x) r) ∧ ∀ i, i < 8 → bs_roots st' (20 * i) = 0 := by
  intro x P h8 h64 hx
  obtain ⟨Q, hQ, hq⟩ := fb_rz (st := fB0 P) (n := 100) (by omega)
  have hs : fm_sum 100 (fM0 (clM x)) 1024 19 = some sum0 := by
    rw [lt32 1024, lt32 19, fm_sumE (by omega) (by omega)]
    congr 1
  refine ⟨100, _, sum0, hQ, hs, ⟨hd, h8, h64, hx, ⟨fun i hi => ?_, fun i hi => ?_⟩, ⟨0, by omega, rfl, rfl⟩, rfl, Or.inl ⟨rfl, Or.inl rfl⟩⟩, fun i hi => ?_⟩
  · show (0 : Int64) = vp_updL (fun _ => 0) 1043 sum0 i
    have : i < 16 * P := hi
    rw [pk_uLn (by omega)]
  · show Q i = vp_updL (fun _ => 0) 1043 sum0 (1024 + i)
    rw [hq i]
    unfold vp_updL
    by_cases c : i = 19
    · rw [if_neg (by omega), if_pos c, if_pos (by omega)]
    · by_cases c2 : i < 19
      · rw [if_pos c2, if_neg (by omega)]
      · rw [if_neg c2, if_neg c, if_neg (by omega)]; rfl
  · show Q (20 * i) = 0
    rw [hq]
    by_cases c : 20 * i < 19
    · rw [if_pos c]
    · rw [if_neg c, if_neg (by omega)]; rfl
