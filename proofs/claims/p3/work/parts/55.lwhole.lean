/-! THE LOOP -/
def ls_0 (l : Launch) (D : va_G) (gm gq : Nat → Nat) (ca cq : Nat → ClassId) (o : Nat) (cO : ClassId) (Rr : Nat → BSt → MSt → Prop) : Prop := ∀ (d : Nat) (st : BSt) (ms : MSt) (f : Nat → Int64) (y1 : Int32) (y2 : Int32) (y3 : Int32), Rr (d + 1) st ms → ∃ (st' : BSt) (ms' : MSt) (f' : Nat → Int64) (k : Int32) (z : Int32), Rr d st' ms' ∧ (LM l yl_put rml_put D (tysO ca cO) [.ref (gm 0), .int y1, .long (lvl y2 y3), .ref o] (wO gm ca st o cO f) (XI k) (wO gm ca st' o cO f')) ∧ (LM l ym_put rmm_put D (tysM cq) [.ref (gq 0), .int y1, .long (lvl y2 y3)] (wM gq cq ms) (XI z) (wM gq cq ms'))
def ls_1 (l : Launch) (D : va_G) (gm gq : Nat → Nat) (ca cq : Nat → ClassId) (o : Nat) (cO : ClassId) (Rr : Nat → BSt → MSt → Prop) : Prop := ∀ (d : Nat) (st : BSt) (ms : MSt) (f : Nat → Int64) (y1 : Int32), Rr (d + 1) st ms → ∃ (st' : BSt) (ms' : MSt) (f' : Nat → Int64) (k : Int32) (z : Int32), Rr d st' ms' ∧ (LM l yl_drop rml_drop D (tysO ca cO) [.ref (gm 0), .int y1, .ref o] (wO gm ca st o cO f) (XI k) (wO gm ca st' o cO f')) ∧ (LM l ym_drop rmm_drop D (tysM cq) [.ref (gq 0), .int y1] (wM gq cq ms) (XI z) (wM gq cq ms')) ∧ (LM l ym_thrown rmm_thrown D (tysM cq) [.ref (gq 0)] (wM gq cq ms') (XI k) (wM gq cq ms')) ∧ (k = 0 → f' 0 = z.toInt64)
def ls_2 (l : Launch) (D : va_G) (gm gq : Nat → Nat) (ca cq : Nat → ClassId) (o : Nat) (cO : ClassId) (Rr : Nat → BSt → MSt → Prop) : Prop := ∀ (d : Nat) (st : BSt) (ms : MSt) (f : Nat → Int64), Rr (d + 1) st ms → ∃ (st' : BSt) (ms' : MSt) (f' : Nat → Int64) (k : Int32) (z : Int32), Rr d st' ms' ∧ (LM l yl_version rml_version D (tysO ca cO) [.ref (gm 0), .ref o] (wO gm ca st o cO f) (XI k) (wO gm ca st' o cO f')) ∧ (LM l ym_version rmm_version D (tysM cq) [.ref (gq 0)] (wM gq cq ms) (XI z) (wM gq cq ms'))
def ls_3 (l : Launch) (D : va_G) (gm gq : Nat → Nat) (ca cq : Nat → ClassId) (o : Nat) (cO : ClassId) (Rr : Nat → BSt → MSt → Prop) : Prop := ∀ (d : Nat) (st : BSt) (ms : MSt) (f : Nat → Int64) (y1 : Int32) (y2 : Int32), Rr (d + 1) st ms → ∃ (st' : BSt) (ms' : MSt) (f' : Nat → Int64) (k : Int32) (z : Int32), Rr d st' ms' ∧ (LM l yl_has rml_has D (tysO ca cO) [.ref (gm 0), .int y1, .int y2, .ref o] (wO gm ca st o cO f) (XI k) (wO gm ca st' o cO f')) ∧ (LM l ym_has rmm_has D (tysM cq) [.ref (gq 0), .int y1, .int y2] (wM gq cq ms) (XI z) (wM gq cq ms'))
def ls_4 (l : Launch) (D : va_G) (gm gq : Nat → Nat) (ca cq : Nat → ClassId) (o : Nat) (cO : ClassId) (Rr : Nat → BSt → MSt → Prop) : Prop := ∀ (d : Nat) (st : BSt) (ms : MSt) (f : Nat → Int64) (y1 : Int32) (y2 : Int32), Rr (d + 1) st ms → ∃ (st' : BSt) (ms' : MSt) (f' : Nat → Int64) (k : Int32) (z : Int64), Rr d st' ms' ∧ (LM l yl_find rml_find D (tysO ca cO) [.ref (gm 0), .int y1, .int y2, .ref o] (wO gm ca st o cO f) (XI k) (wO gm ca st' o cO f')) ∧ (LM l ym_find rmm_find D (tysM cq) [.ref (gq 0), .int y1, .int y2] (wM gq cq ms) (XL z) (wM gq cq ms'))
def ls_5 (l : Launch) (D : va_G) (gm gq : Nat → Nat) (ca cq : Nat → ClassId) (o : Nat) (cO : ClassId) (Rr : Nat → BSt → MSt → Prop) : Prop := ∀ (d : Nat) (st : BSt) (ms : MSt) (f : Nat → Int64) (y1 : Int32) (y2 : Int32), Rr (d + 1) st ms → ∃ (st' : BSt) (ms' : MSt) (f' : Nat → Int64) (k : Int32) (z : Int32), Rr d st' ms' ∧ (LM l yl_count rml_count D (tysO ca cO) [.ref (gm 0), .int y1, .int y2, .ref o] (wO gm ca st o cO f) (XI k) (wO gm ca st' o cO f')) ∧ (LM l ym_count rmm_count D (tysM cq) [.ref (gq 0), .int y1, .int y2] (wM gq cq ms) (XI z) (wM gq cq ms'))
def ls_6 (l : Launch) (D : va_G) (gm gq : Nat → Nat) (ca cq : Nat → ClassId) (o : Nat) (cO : ClassId) (Rr : Nat → BSt → MSt → Prop) : Prop := ∀ (d : Nat) (st : BSt) (ms : MSt) (f : Nat → Int64) (y1 : Int32) (y2 : Int32), Rr (d + 1) st ms → ∃ (st' : BSt) (ms' : MSt) (f' : Nat → Int64) (k : Int32) (z : Int32), Rr d st' ms' ∧ (LM l yl_key rml_key D (tysO ca cO) [.ref (gm 0), .int y1, .int y2, .ref o] (wO gm ca st o cO f) (XI k) (wO gm ca st' o cO f')) ∧ (LM l ym_key rmm_key D (tysM cq) [.ref (gq 0), .int y1, .int y2] (wM gq cq ms) (XI z) (wM gq cq ms'))
def ls_7 (l : Launch) (D : va_G) (gm gq : Nat → Nat) (ca cq : Nat → ClassId) (o : Nat) (cO : ClassId) (Rr : Nat → BSt → MSt → Prop) : Prop := ∀ (d : Nat) (st : BSt) (ms : MSt) (f : Nat → Int64) (y1 : Int32) (y2 : Int32), Rr (d + 1) st ms → ∃ (st' : BSt) (ms' : MSt) (f' : Nat → Int64) (k : Int32) (z : Int32), Rr d st' ms' ∧ (LM l yl_same rml_same D (tysO ca cO) [.ref (gm 0), .int y1, .int y2, .ref o] (wO gm ca st o cO f) (XI k) (wO gm ca st' o cO f')) ∧ (LM l ym_same rmm_same D (tysM cq) [.ref (gq 0), .int y1, .int y2] (wM gq cq ms) (XI z) (wM gq cq ms'))
def ls_8 (l : Launch) (D : va_G) (gm gq : Nat → Nat) (ca cq : Nat → ClassId) (o : Nat) (cO : ClassId) (Rr : Nat → BSt → MSt → Prop) : Prop := ∀ (d : Nat) (st : BSt) (ms : MSt) (f : Nat → Int64), Rr (d + 1) st ms → ∃ (st' : BSt) (ms' : MSt) (f' : Nat → Int64) (k : Int32) (z : Int32), Rr d st' ms' ∧ (LM l yl_free rml_free D (tysO ca cO) [.ref (gm 0), .ref o] (wO gm ca st o cO f) (XI k) (wO gm ca st' o cO f')) ∧ (LM l ym_free rmm_free D (tysM cq) [.ref (gq 0)] (wM gq cq ms) (XI z) (wM gq cq ms'))
def ls_9 (l : Launch) (D : va_G) (gm gq : Nat → Nat) (ca cq : Nat → ClassId) (o : Nat) (cO : ClassId) (Rr : Nat → BSt → MSt → Prop) : Prop := ∀ (d : Nat) (st : BSt) (ms : MSt) (f : Nat → Int64) (y1 : Int32), Rr (d + 1) st ms → ∃ (st' : BSt) (ms' : MSt) (f' : Nat → Int64) (k : Int32) (z : Int32), Rr d st' ms' ∧ (LM l yl_crash rml_crash D (tysO ca cO) [.ref (gm 0), .int y1, .ref o] (wO gm ca st o cO f) (XI k) (wO gm ca st' o cO f')) ∧ (LM l ym_crash rmm_crash D (tysM cq) [.ref (gq 0), .int y1] (wM gq cq ms) (XI z) (wM gq cq ms'))
def ls_10 (l : Launch) (D : va_G) (gm gq : Nat → Nat) (ca cq : Nat → ClassId) (o : Nat) (cO : ClassId) (Rr : Nat → BSt → MSt → Prop) : Prop := ∀ (d : Nat) (st : BSt) (ms : MSt) (f : Nat → Int64), Rr (d + 1) st ms → ∃ (st' : BSt) (ms' : MSt) (z : Int32) (z2 : Int32), Rr d st' ms' ∧ (LM l yb_reopen rmb_reopen D (tysB ca) [.ref (gm 0)] (wB gm ca st) (XI z) (wB gm ca st')) ∧ (LM l ym_reopen rmm_reopen D (tysM cq) [.ref (gq 0)] (wM gq cq ms) (XI z2) (wM gq cq ms'))
def ls_11 (l : Launch) (D : va_G) (gm gq : Nat → Nat) (ca cq : Nat → ClassId) (o : Nat) (cO : ClassId) (Rr : Nat → BSt → MSt → Prop) : Prop := ∀ (d : Nat) (st : BSt) (ms : MSt) (f : Nat → Int64) (y1 : Int32) (y2 : Int32), Rr (d + 1) st ms → ∃ (st' : BSt) (ms' : MSt) (f' : Nat → Int64) (k : Int32) (z : Int64), Rr d st' ms' ∧ (LM l yl_wordAt rml_wordAt D (tysO ca cO) [.ref (gm 0), .int y1, .int y2, .ref o] (wO gm ca st o cO f) (XI k) (wO gm ca st' o cO f')) ∧ (LM l ym_wordAt rmm_wordAt D (tysM cq) [.ref (gq 0), .int y1, .int y2] (wM gq cq ms) (XL z) (wM gq cq ms'))
def ls_12 (l : Launch) (D : va_G) (gm gq : Nat → Nat) (ca cq : Nat → ClassId) (o : Nat) (cO : ClassId) (Rr : Nat → BSt → MSt → Prop) : Prop := ∀ (d : Nat) (st : BSt) (ms : MSt) (f : Nat → Int64) (y1 : Int32) (y2 : Int32), Rr (d + 1) st ms → ∃ (st' : BSt) (ms' : MSt) (f' : Nat → Int64) (k : Int32) (z : Int64), Rr d st' ms' ∧ (LM l yl_rootAt rml_rootAt D (tysO ca cO) [.ref (gm 0), .int y1, .int y2, .ref o] (wO gm ca st o cO f) (XI k) (wO gm ca st' o cO f')) ∧ (LM l ym_rootAt rmm_rootAt D (tysM cq) [.ref (gq 0), .int y1, .int y2] (wM gq cq ms) (XL z) (wM gq cq ms'))
def ls_13 (l : Launch) (D : va_G) (gm gq : Nat → Nat) (ca cq : Nat → ClassId) (o : Nat) (cO : ClassId) (Rr : Nat → BSt → MSt → Prop) : Prop := ∀ (d : Nat) (st : BSt) (ms : MSt) (f : Nat → Int64) (y1 : Int32) (y2 : Int32) (y3 : Int32) (y4 : Int32), Rr (d + 1) st ms → ∃ (st' : BSt) (ms' : MSt) (k : Int32), Rr d st' ms' ∧ (LM l yl_poke rml_poke D (tysO ca cO) [.ref (gm 0), .int y1, .int y2, .long (lvl y3 y4)] (wO gm ca st o cO f) (XI k) (wO gm ca st' o cO f)) ∧ (LM l ym_poke rmm_poke D (tysM cq) [.ref (gq 0), .int y1, .int y2, .long (lvl y3 y4)] (wM gq cq ms) (XV) (wM gq cq ms'))
def ls_14 (l : Launch) (D : va_G) (gm gq : Nat → Nat) (ca cq : Nat → ClassId) (o : Nat) (cO : ClassId) (Rr : Nat → BSt → MSt → Prop) : Prop := ∀ (d : Nat) (st : BSt) (ms : MSt) (f : Nat → Int64) (y1 : Int32) (y2 : Int32) (y3 : Int32) (y4 : Int32), Rr (d + 1) st ms → ∃ (st' : BSt) (ms' : MSt) (k : Int32), Rr d st' ms' ∧ (LM l yl_pokeRoot rml_pokeRoot D (tysO ca cO) [.ref (gm 0), .int y1, .int y2, .long (lvl y3 y4)] (wO gm ca st o cO f) (XI k) (wO gm ca st' o cO f)) ∧ (LM l ym_pokeRoot rmm_pokeRoot D (tysM cq) [.ref (gq 0), .int y1, .int y2, .long (lvl y3 y4)] (wM gq cq ms) (XV) (wM gq cq ms'))
def ls_15 (l : Launch) (D : va_G) (gm gq : Nat → Nat) (ca cq : Nat → ClassId) (o : Nat) (cO : ClassId) (Rr : Nat → BSt → MSt → Prop) : Prop := ∀ (d : Nat) (st : BSt) (ms : MSt) (f : Nat → Int64), Rr (d + 1) st ms → ∃ (st' : BSt) (ms' : MSt) (z : Int32) (z2 : Int32), Rr d st' ms' ∧ (LM l yb_badAt rmb_badAt D (tysB ca) [.ref (gm 0)] (wB gm ca st) (XI z) (wB gm ca st')) ∧ (LM l ym_badAt rmm_badAt D (tysM cq) [.ref (gq 0)] (wM gq cq ms) (XI z2) (wM gq cq ms'))
/-- what the loop asks of a relation: each call keeps it (d: how many calls are left), and both sides answer alike -/
def LStp (l : Launch) (D : va_G) (gm gq : Nat → Nat) (ca cq : Nat → ClassId) (o : Nat) (cO : ClassId) (Rr : Nat → BSt → MSt → Prop) : Prop := ls_0 l D gm gq ca cq o cO Rr ∧ ls_1 l D gm gq ca cq o cO Rr ∧ ls_2 l D gm gq ca cq o cO Rr ∧ ls_3 l D gm gq ca cq o cO Rr ∧ ls_4 l D gm gq ca cq o cO Rr ∧ ls_5 l D gm gq ca cq o cO Rr ∧ ls_6 l D gm gq ca cq o cO Rr ∧ ls_7 l D gm gq ca cq o cO Rr ∧ ls_8 l D gm gq ca cq o cO Rr ∧ ls_9 l D gm gq ca cq o cO Rr ∧ ls_10 l D gm gq ca cq o cO Rr ∧ ls_11 l D gm gq ca cq o cO Rr ∧ ls_12 l D gm gq ca cq o cO Rr ∧ ls_13 l D gm gq ca cq o cO Rr ∧ ls_14 l D gm gq ca cq o cO Rr ∧ ls_15 l D gm gq ca cq o cO Rr
theorem and15 (x : Int32) : ∃ k : Nat, k < 16 ∧ x &&& 15 = Int32.ofNat k := by
  refine ⟨x.toBitVec.toNat % 16, Nat.mod_lt _ (by decide), ?_⟩
  apply Int32.toBitVec_inj.mp
  apply BitVec.eq_of_toNat_eq
  rw [Int32.toBitVec_and, BitVec.toNat_and]
  show x.toBitVec.toNat &&& 15 = _
  rw [show (15 : Nat) = 2 ^ 4 - 1 from rfl, Nat.and_two_pow_sub_one_eq_mod]
  show _ = (x.toBitVec.toNat % 16) % 2 ^ 32
  exact (Nat.mod_eq_of_lt (by have := Nat.mod_lt x.toBitVec.toNat (show 0 < 16 by decide); omega)).symm
theorem in_i {i j L : Nat} (hL : L ≤ 2561) (h : i + j < L) : vp_in (Int32.ofNat i + Int32.ofNat j) L := by
  have e1 : (Int32.ofNat i + Int32.ofNat j) = Int32.ofNat (i + j) := (Int32.ofNat_add _ _).symm
  rw [e1]
  unfold vp_in
  have e2 : (Int32.ofNat (i + j)).toInt = ((i + j : Nat) : Int) := Int32.toInt_ofNat_of_lt (by omega)
  intro h'
  rcases h' with h' | h'
  · rw [Int32.lt_iff_toInt_lt, e2] at h'
    have : (0 : Int32).toInt = 0 := rfl
    omega
  · rw [Int32.toNatClampNeg, e2] at h'
    omega
theorem lp_gt {i L : Nat} (hi : i ≤ 2600) (hL : L ≤ 2605) (h : L < i + 5) : Int32.ofNat L - 5 < Int32.ofNat i := by
  rw [Int32.lt_iff_toInt_lt, Int32.toInt_sub, Int32.toInt_ofNat_of_lt (by omega), Int32.toInt_ofNat_of_lt (by omega)]
  have e5 : (5 : Int32).toInt = 5 := rfl
  rw [e5, Int.bmod_eq_of_le (by omega) (by omega)]
  omega
theorem lp_ngt {i L : Nat} (hL : L ≤ 2561) (hi : i ≤ 2600) (h : ¬ Int32.ofNat L - 5 < Int32.ofNat i) : i + 4 < L := by
  by_cases h' : i + 4 < L
  · exact h'
  · exact absurd (lp_gt hi (by omega) (by omega)) h
set_option maxHeartbeats 4000000 in
theorem wl_loop {p : Program} {l : Launch} {e : Env} {s : State} {m : MethodId} {args : Array Value} {below : List Frame} {meth : Method} {c : Code} {Q : State → Prop} {D : va_G} {A : Nat → Prop} {b L : Nat} {xs : Nat → Int32} {gm gq : Nat → Nat} {ca cq : Nat → ClassId} {o : Nat} {cO : ClassId} {Rr : Nat → BSt → MSt → Prop} (hC : LC p s m args c D A b L xs ca cq cO) (hLn : L ≤ 2561) (hS : LStp l D gm gq ca cq o cO Rr)
    (kend : ∀ (H : Heap) (locs : List Loc) (cells slots : Nat) (ls : Array Slot), va_S A s.heap H locs → cells ≤ 601024 → slots ≤ 7293000 → W p l e room_1 s m args below meth c H locs cells slots Q (F0 m 790 ls [])) (d : Nat) :
    ∀ (i cells slots : Nat) (st : BSt) (ms : MSt) (f : Nat → Int64) (H : Heap) (locs : List Loc) (ls : Array Slot), L < i + 5 * d + 5 → i ≤ 2600 → cells + 4 * d ≤ 601024 → slots + 24 * d ≤ 7293000 → Rr d st ms → LWd D A (wL gm ca gq cq o cO st ms f) s.heap H locs → lv_has ls 8 (lvL b gm gq o (Int32.ofNat i)) → W p l e room_1 s m args below meth c H locs cells slots Q (F0 m 33 ls []) := by
  obtain ⟨hx, hb, hml, hown, hts, hkO, hkM, hZ, hA, hX, hbl, hbA⟩ := id hC
  obtain ⟨s0, s1, s2, s3, s4, s5, s6, s7, s8, s9, s10, s11, s12, s13, s14, s15⟩ := hS
  induction d with
  | zero =>
    intro i cells slots st ms f H locs ls hd hi hce hsl hR hL hl
    refine lv_iload hx hb dw_33 (lv_at hl 4 rfl) ?_
    refine lv_aload_n hx hb dw_35 rfl (lv_at hl 0 rfl) ?_
    refine va_slen hx hb hX hbl hbA hL.2.2 dw_36 ?_
    refine lv_iconst (v := 5) hx hb dw_37 rfl ?_
    refine lv_isub hx hb dw_38 ?_
    refine lv_icmp_gt (tgt := 790) hx hb dw_39 (by decide) (fun c0 => ?_) (fun c0 => ?_)
    · exact kend _ _ _ _ _ hL.2.2 (by omega) (by omega)
    · exact absurd (lp_gt (by omega) (by omega) (by omega)) c0
  | succ d ih =>
    intro i cells slots st ms f H locs ls hd hi hce hsl hR hL hl
    refine lv_iload hx hb dw_33 (lv_at hl 4 rfl) ?_
    refine lv_aload_n hx hb dw_35 rfl (lv_at hl 0 rfl) ?_
    refine va_slen hx hb hX hbl hbA hL.2.2 dw_36 ?_
    refine lv_iconst (v := 5) hx hb dw_37 rfl ?_
    refine lv_isub hx hb dw_38 ?_
    refine lv_icmp_gt (tgt := 790) hx hb dw_39 (by decide) (fun c0 => ?_) (fun c0 => ?_)
    · exact kend _ _ _ _ _ hL.2.2 (by omega) (by omega)
    have hlt : i + 4 < L := lp_ngt hLn hi c0
    refine lv_aload_n hx hb dw_42 rfl (lv_at hl 0 rfl) ?_
    refine lv_iload hx hb dw_43 (lv_at hl 4 rfl) ?_
    refine va_sld hx hb hX hbl hbA hL.2.2 (by have := in_i (i := i) (j := 0) hLn (by omega); simpa using this) dw_45 ?_
    refine lv_bipush (v := 15) hx hb dw_46 (by decide) ?_
    refine lv_iand hx hb dw_48 ?_
    have v1 : vp_in (Int32.ofNat i + 1) L := in_i (j := 1) hLn (by omega)
    have v2 : vp_in (Int32.ofNat i + 2) L := in_i (j := 2) hLn (by omega)
    have v3 : vp_in (Int32.ofNat i + 3) L := in_i (j := 3) hLn (by omega)
    have v4 : vp_in (Int32.ofNat i + 4) L := in_i (j := 4) hLn (by omega)
    have hback : ∀ (st' : BSt) (ms' : MSt) (f' : Nat → Int64), Rr d st' ms' → ∀ (H : Heap) (locs : List Loc) (ls : Array Slot), LWd D A (wL gm ca gq cq o cO st' ms' f') s.heap H locs → lv_has ls 8 (lvL b gm gq o (Int32.ofNat i)) → W p l e room_1 s m args below meth c H locs (cells + 4) (slots + 24) Q (F0 m 784 ls []) := by
      intro st' ms' f' hR' H locs ls hL hl
      refine lv_iinc (i := 4) (nL := 8) (k := 4) (v := Int32.ofNat (i + 5)) hx hb dw_784 hl rfl (Int32.ofNat_add i 5).symm (by decide) rfl ?_
      intro ls hl
      refine lv_goto (tgt := 33) hx hb dw_787 (by decide) ?_
      exact ih (i + 5) _ _ st' ms' f' _ _ _ (by omega) (by omega) (by omega) (by omega) hR' hL (lv_sub hl [1, 2, 3, 4, 0] rfl)
    obtain ⟨w, hw, ew⟩ := and15 (xs (Int32.ofNat i).toNatClampNeg)
    rw [ew]
    rcases (by omega : w = 0 ∨ w = 1 ∨ w = 2 ∨ w = 3 ∨ w = 4 ∨ w = 5 ∨ w = 6 ∨ w = 7 ∨ w = 8 ∨ w = 9 ∨ w = 10 ∨ w = 11 ∨ w = 12 ∨ w = 13 ∨ w = 14 ∨ w = 15) with rfl | rfl | rfl | rfl | rfl | rfl | rfl | rfl | rfl | rfl | rfl | rfl | rfl | rfl | rfl | rfl
    · refine lv_tableIn (tgt := 128) hx hb dw_49 (by decide) (by decide) rfl (by decide) ?_
      obtain ⟨st', ms', f', k, z, hR', hW, hM⟩ := s0 d st ms f (xs (Int32.ofNat i + 1).toNatClampNeg) (xs (Int32.ofNat i + 2).toNatClampNeg) (xs (Int32.ofNat i + 3).toNatClampNeg) hR
      exact wl_case0 hC v1 rfl v2 rfl v3 rfl hW hM (by omega) (by omega) hL hl (hback st' ms' _ hR')
    · refine lv_tableIn (tgt := 200) hx hb dw_49 (by decide) (by decide) rfl (by decide) ?_
      obtain ⟨st', ms', f', k, z, hR', hW, hM, hT, hE⟩ := s1 d st ms f (xs (Int32.ofNat i + 1).toNatClampNeg) hR
      exact wl_case1 hC v1 rfl hW hM hT hE (by omega) (by omega) hL hl (hback st' ms' _ hR')
    · refine lv_tableIn (tgt := 256) hx hb dw_49 (by decide) (by decide) rfl (by decide) ?_
      obtain ⟨st', ms', f', k, z, hR', hW, hM⟩ := s2 d st ms f hR
      exact wl_case2 hC hW hM (by omega) (by omega) hL hl (hback st' ms' _ hR')
    · refine lv_tableIn (tgt := 272) hx hb dw_49 (by decide) (by decide) rfl (by decide) ?_
      obtain ⟨st', ms', f', k, z, hR', hW, hM⟩ := s3 d st ms f (xs (Int32.ofNat i + 1).toNatClampNeg) (xs (Int32.ofNat i + 2).toNatClampNeg) hR
      exact wl_case3 hC v1 rfl v2 rfl hW hM (by omega) (by omega) hL hl (hback st' ms' _ hR')
    · refine lv_tableIn (tgt := 312) hx hb dw_49 (by decide) (by decide) rfl (by decide) ?_
      obtain ⟨st', ms', f', k, z, hR', hW, hM⟩ := s4 d st ms f (xs (Int32.ofNat i + 1).toNatClampNeg) (xs (Int32.ofNat i + 2).toNatClampNeg) hR
      exact wl_case4 hC v1 rfl v2 rfl hW hM (by omega) (by omega) hL hl (hback st' ms' _ hR')
    · refine lv_tableIn (tgt := 352) hx hb dw_49 (by decide) (by decide) rfl (by decide) ?_
      obtain ⟨st', ms', f', k, z, hR', hW, hM⟩ := s5 d st ms f (xs (Int32.ofNat i + 1).toNatClampNeg) (xs (Int32.ofNat i + 2).toNatClampNeg) hR
      exact wl_case5 hC v1 rfl v2 rfl hW hM (by omega) (by omega) hL hl (hback st' ms' _ hR')
    · refine lv_tableIn (tgt := 392) hx hb dw_49 (by decide) (by decide) rfl (by decide) ?_
      obtain ⟨st', ms', f', k, z, hR', hW, hM⟩ := s6 d st ms f (xs (Int32.ofNat i + 1).toNatClampNeg) (xs (Int32.ofNat i + 2).toNatClampNeg) hR
      exact wl_case6 hC v1 rfl v2 rfl hW hM (by omega) (by omega) hL hl (hback st' ms' _ hR')
    · refine lv_tableIn (tgt := 432) hx hb dw_49 (by decide) (by decide) rfl (by decide) ?_
      obtain ⟨st', ms', f', k, z, hR', hW, hM⟩ := s7 d st ms f (xs (Int32.ofNat i + 1).toNatClampNeg) (xs (Int32.ofNat i + 2).toNatClampNeg) hR
      exact wl_case7 hC v1 rfl v2 rfl hW hM (by omega) (by omega) hL hl (hback st' ms' _ hR')
    · refine lv_tableIn (tgt := 472) hx hb dw_49 (by decide) (by decide) rfl (by decide) ?_
      obtain ⟨st', ms', f', k, z, hR', hW, hM⟩ := s8 d st ms f hR
      exact wl_case8 hC hW hM (by omega) (by omega) hL hl (hback st' ms' _ hR')
    · refine lv_tableIn (tgt := 488) hx hb dw_49 (by decide) (by decide) rfl (by decide) ?_
      obtain ⟨st', ms', f', k, z, hR', hW, hM⟩ := s9 d st ms f (xs (Int32.ofNat i + 1).toNatClampNeg) hR
      exact wl_case9 hC v1 rfl hW hM (by omega) (by omega) hL hl (hback st' ms' _ hR')
    · refine lv_tableIn (tgt := 516) hx hb dw_49 (by decide) (by decide) rfl (by decide) ?_
      obtain ⟨st', ms', z, z2, hR', hW, hM⟩ := s10 d st ms f hR
      exact wl_case10 hC hW hM (by omega) (by omega) hL hl (hback st' ms' _ hR')
    · refine lv_tableIn (tgt := 529) hx hb dw_49 (by decide) (by decide) rfl (by decide) ?_
      obtain ⟨st', ms', f', k, z, hR', hW, hM⟩ := s11 d st ms f (xs (Int32.ofNat i + 1).toNatClampNeg) (xs (Int32.ofNat i + 2).toNatClampNeg) hR
      exact wl_case11 hC v1 rfl v2 rfl hW hM (by omega) (by omega) hL hl (hback st' ms' _ hR')
    · refine lv_tableIn (tgt := 569) hx hb dw_49 (by decide) (by decide) rfl (by decide) ?_
      obtain ⟨st', ms', f', k, z, hR', hW, hM⟩ := s12 d st ms f (xs (Int32.ofNat i + 1).toNatClampNeg) (xs (Int32.ofNat i + 2).toNatClampNeg) hR
      exact wl_case12 hC v1 rfl v2 rfl hW hM (by omega) (by omega) hL hl (hback st' ms' _ hR')
    · refine lv_tableIn (tgt := 609) hx hb dw_49 (by decide) (by decide) rfl (by decide) ?_
      obtain ⟨st', ms', k, hR', hW, hM⟩ := s13 d st ms f (xs (Int32.ofNat i + 1).toNatClampNeg) (xs (Int32.ofNat i + 2).toNatClampNeg) (xs (Int32.ofNat i + 3).toNatClampNeg) (xs (Int32.ofNat i + 4).toNatClampNeg) hR
      exact wl_case13 hC v1 rfl v2 rfl v3 rfl v4 rfl hW hM (by omega) (by omega) hL hl (hback st' ms' _ hR')
    · refine lv_tableIn (tgt := 690) hx hb dw_49 (by decide) (by decide) rfl (by decide) ?_
      obtain ⟨st', ms', k, hR', hW, hM⟩ := s14 d st ms f (xs (Int32.ofNat i + 1).toNatClampNeg) (xs (Int32.ofNat i + 2).toNatClampNeg) (xs (Int32.ofNat i + 3).toNatClampNeg) (xs (Int32.ofNat i + 4).toNatClampNeg) hR
      exact wl_case14 hC v1 rfl v2 rfl v3 rfl v4 rfl hW hM (by omega) (by omega) hL hl (hback st' ms' _ hR')
    · refine lv_tableIn (tgt := 771) hx hb dw_49 (by decide) (by decide) rfl (by decide) ?_
      obtain ⟨st', ms', z, z2, hR', hW, hM⟩ := s15 d st ms f hR
      exact wl_case15 hC hW hM (by omega) (by omega) hL hl (hback st' ms' _ hR')
