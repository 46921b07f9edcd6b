/-! FROM THE ENTRY TO THE LOOP -/
section LE
variable {p : Program} {l : Launch} {e : Env} {R : Room} {s : State} {m : MethodId} {args : Array Value} {below : List Frame} {meth : Method} {c : Code} {H : Heap} {locs : List Loc} {cells slots : Nat} {Q : State → Prop}
variable {cc : ByteArray} {pc nL : Nat} {ls : Array Slot} {rest : List Value} {D : va_G} {A : Nat → Prop} {g0 : Nat} {x : Int32} {L wr : va_W}
theorem iniBlind {ci sz : Nat} {df : List Value} {As : List Value} : FrameBlind (va_Pc As (ini_P D g0 ci df sz)) := fun a U g mk q => ⟨q.1, q.2.1, ⟨q.2.2.1.1, q.2.2.1.2.moved rfl (Vm.Alike.refl U.vm)⟩, q.2.2.2⟩
theorem wl_ctorB {st' : BSt} (hM : ∀ sz : Nat, MetX l yb_init lw_g rmb_init (va_Pc [.ref g0, .int x] (ini_P D g0 0 dfB sz)) (ini_QB D g0 (va_A [(g0, .inr (0, dfB))] sz) st') rmb_init.cells rmb_init.slots (va_A [(g0, .inr (0, dfB))] sz)) (hx : p.tables.exec = Jvm.exec) (hb : c.code = cc) (hml : c.maxLocals = nL) (hown : s.vm.findClass R_law = some m.cls) (hts : ∀ w ∈ lw_g, w.before args s = true)
    (hk : lk D [] s) (hZ : zz A s s.heap) (hA : ∀ q, s.heap.size ≤ q → A q) (hL : LWd D A L s.heap H locs) (hc : L.Perm ([(g0, .inr (0, dfB))] ++ wr)) (hls : ls.size = nL) (hW : 2 * (F0 m pc ls (.int x :: .ref g0 :: rest)).monitorRoom + (rest.map fun v => v.category).sum ≤ 8)
    (hR : rmb_init.frames + 1 ≤ R.frames ∧ 8 + (2 + 11) + rmb_init.locals ≤ R.locals) (hdg : decode cc pc = .ok (.invokespecial 70, 3)) (hf : cells + rmb_init.cells ≤ R.cells ∧ slots + rmb_init.slots ≤ R.slots)
    (kk : ∀ (H : Heap) (locs : List Loc) (gm : Nat → Nat) (ca : Nat → ClassId), gm 0 = g0 → va_K D vwCl (tysB ca) s → LWd D A (wB gm ca st' ++ wr) s.heap H locs → W p l e R s m args below meth c H locs (cells + rmb_init.cells) (slots + rmb_init.slots) Q (F0 m (pc + 3) ls rest)) : W p l e R s m args below meth c H locs cells slots Q (F0 m pc ls (.int x :: .ref g0 :: rest)) := by
  refine xx_call (xx_runI (Ts := lw_g) (n := 1) (As := [.int x]) (b := g0) (rest := rest) ⟨hx, hb, hml, hown, hts⟩ (hM H.size) ⟨callB_x hts mcb_init 1 nz_b nl_b (by decide +kernel) hR, rfl, hts _ ni_b⟩ ⟨iniBlind, lm_pre (As := [.ref g0, .int x]) hk hZ hL hc⟩ rfl rfl hls rfl hW hdg hf) ?_ ?_
  · intro v' s0 t Ls h0 hw hLs hq
    obtain ⟨hv, gm, ca, hg, hK, hP, hD, hF⟩ := hq
    cases hv
    exact kk _ _ gm ca hg (va_K.moved hw.alike.symm hK) (lm_back hA hL hc (List.Perm.refl _) h0 hLs hP hD hF)
  · intro x s0 t Ls h0 hw hLs hq
    cases hq.1
theorem wl_ctorM {st' : MSt} (hM : ∀ sz : Nat, MetX l ym_init lw_g rmm_init (va_Pc [.ref g0, .int x] (ini_P D g0 1 dfM sz)) (ini_QM D g0 (va_A [(g0, .inr (1, dfM))] sz) st') rmm_init.cells rmm_init.slots (va_A [(g0, .inr (1, dfM))] sz)) (hx : p.tables.exec = Jvm.exec) (hb : c.code = cc) (hml : c.maxLocals = nL) (hown : s.vm.findClass R_law = some m.cls) (hts : ∀ w ∈ lw_g, w.before args s = true)
    (hk : lk D [] s) (hZ : zz A s s.heap) (hA : ∀ q, s.heap.size ≤ q → A q) (hL : LWd D A L s.heap H locs) (hc : L.Perm ([(g0, .inr (1, dfM))] ++ wr)) (hls : ls.size = nL) (hW : 2 * (F0 m pc ls (.int x :: .ref g0 :: rest)).monitorRoom + (rest.map fun v => v.category).sum ≤ 8)
    (hR : rmm_init.frames + 1 ≤ R.frames ∧ 8 + (2 + 11) + rmm_init.locals ≤ R.locals) (hdg : decode cc pc = .ok (.invokespecial 75, 3)) (hf : cells + rmm_init.cells ≤ R.cells ∧ slots + rmm_init.slots ≤ R.slots)
    (kk : ∀ (H : Heap) (locs : List Loc) (gm : Nat → Nat) (ca : Nat → ClassId), gm 0 = g0 → va_K D vwCl (tysM ca) s → LWd D A (wM gm ca st' ++ wr) s.heap H locs → W p l e R s m args below meth c H locs (cells + rmm_init.cells) (slots + rmm_init.slots) Q (F0 m (pc + 3) ls rest)) : W p l e R s m args below meth c H locs cells slots Q (F0 m pc ls (.int x :: .ref g0 :: rest)) := by
  refine xx_call (xx_runI (Ts := lw_g) (n := 1) (As := [.int x]) (b := g0) (rest := rest) ⟨hx, hb, hml, hown, hts⟩ (hM H.size) ⟨callB_x hts mcm_init 1 nz_m nl_m (by decide +kernel) hR, rfl, hts _ ni_m⟩ ⟨iniBlind, lm_pre (As := [.ref g0, .int x]) hk hZ hL hc⟩ rfl rfl hls rfl hW hdg hf) ?_ ?_
  · intro v' s0 t Ls h0 hw hLs hq
    obtain ⟨hv, gm, ca, hg, hK, hP, hD, hF⟩ := hq
    cases hv
    exact kk _ _ gm ca hg (va_K.moved hw.alike.symm hK) (lm_back hA hL hc (List.Perm.refl _) h0 hLs hP hD hF)
  · intro x s0 t Ls h0 hw hLs hq
    cases hq.1

end LE
theorem nc_of {args : Array Value} {s : State} (hgv : (Jvm.Cond.and given_1 narrow_1).before args s = true) : nc s := by
  have hs := flat_of_before _ hgv
  refine nc.of (args := args) ?_
  intro i j hi hj hij
  rcases (by omega : (i = 0 ∧ j = 1) ∨ (i = 0 ∧ j = 2) ∨ (i = 1 ∧ j = 0) ∨ (i = 1 ∧ j = 2) ∨ (i = 2 ∧ j = 0) ∨ (i = 2 ∧ j = 1)) with ⟨rfl, rfl⟩ | ⟨rfl, rfl⟩ | ⟨rfl, rfl⟩ | ⟨rfl, rfl⟩ | ⟨rfl, rfl⟩ | ⟨rfl, rfl⟩
  · exact hs _ (by decide +kernel)
  · exact hs _ (by decide +kernel)
  · exact hs _ (by decide +kernel)
  · exact hs _ (by decide +kernel)
  · exact hs _ (by decide +kernel)
  · exact hs _ (by decide +kernel)
set_option maxRecDepth 100000 in
set_option maxHeartbeats 4000000 in
theorem wl_start {Rr : Nat → BSt → MSt → Prop} {p : Program} {e : Env} {s : State} {m : MethodId} {below : List Frame} {meth : Method} {c : Code} (l : Launch) (hfl : l.flags = flags0) {b L : Nat} {xs : Nat → Int32}
    (hS : ∀ (D : va_G) (gm gq : Nat → Nat) (ca cq : Nat → ClassId) (o : Nat) (cO : ClassId), LStp l D gm gq ca cq o cO Rr)
    (hI : ∀ (x : Int32) (P : Nat), 8 ≤ P → P ≤ 64 → clM x = nI P → ∃ (n : Nat) (st' : BSt) (r : Int64), fb_makeRootZeroAnew n (fB0 P) = some st' ∧ fm_sum n (fM0 (clM x)) 1024 19 = some r ∧ Rr 512 st' (newM (clM x) r))
    (hL : L ≤ 2561) (C0 : lw_At p s m meth c b L xs) : W p l e room_1 s m #[Value.ref b] below meth c s.heap [] 0 0 (lw_Z below #[Value.ref b] s) (entryFrame m ([Value.ref b] : List Value).toArray 8) := by
  obtain ⟨hx, hb, hr, hml, hown, hts0, hX, hbl, hlocks, hgv⟩ := id C0
  have hts : ∀ w ∈ lw_g, w.before #[Value.ref b] s = true := fun w hw => hts0 w (List.mem_filter.mp hw).1
  have hs := flat_of_before _ hgv
  have hA : ∀ q : Nat, s.heap.size ≤ q → (fun q : Nat => s.heap.size ≤ q) q := fun _ h => h
  have hbA : ¬ (fun q : Nat => s.heap.size ≤ q) b := Nat.not_le.mpr hbl
  have hZ : zz (fun q : Nat => s.heap.size ≤ q) s s.heap := ⟨zs.of (hts0 _ zl_1) (hs _ (by decide +kernel)) (fun a h => Nat.not_le.mpr h), zs.of (hts0 _ zl_2) (hs _ (by decide +kernel)) (fun a h => Nat.not_le.mpr h)⟩
  have hZ0 : zz (fun _ : Nat => False) s s.heap := ⟨zs.of (hts0 _ zl_1) (hs _ (by decide +kernel)) (fun a h z => z), zs.of (hts0 _ zl_2) (hs _ (by decide +kernel)) (fun a h z => z)⟩
  have hN : nc s := nc_of hgv
  obtain ⟨c0, iS0, hKn0⟩ := u_known (C := RB) (T := TB) (N := 13) (n := 13) hts in_TB (hts _ nn_b)
  obtain ⟨c1, iS1, hKn1⟩ := u_known (C := RMo) (T := TM) (N := 15) (n := 15) hts qin_TB (hts _ nn_m)
  obtain ⟨D, hKc⟩ : ∃ (D : va_G), ∀ (k : Nat) (q : vw_C), vwCl[k]? = some q → u_Kn s q.1 q.2.1 q.2.2 (D.1 k) (D.2 k) := by
    refine ⟨(fun k => if k = 0 then c0 else c1, fun k => if k = 0 then iS0 else iS1), ?_⟩
    intro k q hq
    match k, hq with
    | 0, hq => cases hq; exact hKn0
    | 1, hq => cases hq; exact hKn1
    | k + 2, hq => simp [vwCl] at hq
  have hK : va_K D vwCl [] s := ⟨hKc, fun k q h => by simp at h⟩
  have hk : lk D [] s := ⟨hK, hZ0, hN⟩
  have hP : va_P D vwCl [] s.heap := fun k q h => by simp at h
  have hD : va_D (fun q : Nat => s.heap.size ≤ q) [] := ⟨fun i j p q h => by simp at h, fun k q h => by simp at h⟩
  have hSv : va_S (fun q : Nat => s.heap.size ≤ q) s.heap s.heap [] := va_S.rf
  rw [lg_entry_eq]
  have hl : lv_has (ent [Value.ref b] 8) 8 [(0, .ref b)] := lv_entry ([.ref b] : List Value) (n := 8) (Nat.le_of_ble_eq_true rfl)
  change W _ _ _ _ _ _ _ _ _ _ _ _ _ _ _ (F0 m 0 (ent [Value.ref b] 8) [])
  generalize ent [Value.ref b] 8 = ls at hl ⊢
  obtain ⟨P, hP8, hP64, hcl⟩ := nI_cl (celv L xs)
  obtain ⟨n, st, r, hf1, hf2, hR⟩ := hI (celv L xs) P hP8 hP64 hcl
  refine va_new (ci := 0) (fs := dfB) (C := RB) (T := TB) (N := 13) hx hb hts in_TB tB tB_ok hown (hts _ nw_b) (hts _ nn_b) (hts _ nz_b) hK hP hD hSv hA rfl (by decide +kernel) (by decide) (by decide) dw_0 (fun g0 H hP hD hSv => ?_)
  refine lv_dup hx hb dw_3 rfl ?_
  refine lv_aload_n hx hb dw_4 rfl (lv_at hl 0 rfl) ?_
  refine lv_iconst (v := 0) hx hb dw_5 rfl ?_
  refine wl_cell (Nat.le_trans hL (by decide)) hx hb hml hown hts hX hbl hbA hSv hl.1 (lv_room (Nat.le_of_ble_eq_true rfl)) ⟨by decide, by decide⟩ dw_6 ⟨by decide, by decide⟩ ?_
  refine wl_ctorB (wr := []) (fun sz => cb_init (l := l) hfl hP64 hcl hf1) hx hb hml hown hts hk hZ hA ⟨hP, hD, hSv⟩ (List.Perm.refl _) hl.1 (lv_room (Nat.le_of_ble_eq_true rfl)) ⟨by decide, by decide⟩ dw_9 ⟨by decide, by decide⟩ (fun H locs gm ca hg hKb hLw => ?_)
  obtain ⟨hP, hD, hSv⟩ := hLw
  refine lv_astore_n (i := 1) (nL := 8) hx hb dw_12 rfl hl (by decide) rfl ?_
  intro ls hl
  refine va_new (ci := 1) (fs := dfM) (C := RMo) (T := TM) (N := 15) hx hb hts qin_TB tM tM_ok hown (hts _ nw_m) (hts _ nn_m) (hts _ nz_m) hK hP hD hSv hA rfl (by decide +kernel) (by decide) (by decide) dw_13 (fun g1 H hP hD hSv => ?_)
  refine lv_dup hx hb dw_16 rfl ?_
  refine lv_aload_n hx hb dw_17 rfl (lv_at hl 1 rfl) ?_
  refine lv_iconst (v := 0) hx hb dw_18 rfl ?_
  refine wl_cell (Nat.le_trans hL (by decide)) hx hb hml hown hts hX hbl hbA hSv hl.1 (lv_room (Nat.le_of_ble_eq_true rfl)) ⟨by decide, by decide⟩ dw_19 ⟨by decide, by decide⟩ ?_
  refine wl_ctorM (wr := wB gm ca st ++ []) (fun sz => cq_init (l := l) hfl hf2) hx hb hml hown hts hk hZ hA ⟨hP, hD, hSv⟩ List.perm_append_comm hl.1 (lv_room (Nat.le_of_ble_eq_true rfl)) ⟨by decide, by decide⟩ dw_22 ⟨by decide, by decide⟩ (fun H locs gq cq hgq hKm hLw => ?_)
  obtain ⟨hP, hD, hSv⟩ := hLw
  refine lv_astore_n (i := 2) (nL := 8) hx hb dw_25 rfl hl (by decide) rfl ?_
  intro ls hl
  refine lv_iconst (v := 1) hx hb dw_26 rfl ?_
  refine va_newa (atype := .long) (ty := .long) (N' := 1) (a0 := (1, .inr (.inl (fun _ => 0)))) hx hb (hts _ ar_long) rfl hK hP hD hSv hA (fun _ => rfl) (by decide) (by decide) (by decide) (by decide) (by decide) dw_27 (fun o cO H hKo hP hD hSv => ?_)
  refine lv_astore_n (i := 3) (nL := 8) hx hb dw_29 rfl hl (by decide) rfl ?_
  intro ls hl
  refine lv_iconst (v := 1) hx hb dw_30 rfl ?_
  refine lv_istore (i := 4) (nL := 8) hx hb dw_31 hl (by decide) rfl ?_
  intro ls hl
  have hpm : ((wM gq cq (newM (clM (celv L xs)) r) ++ (wB gm ca st ++ [])) ++ [eO o cO (fun _ => 0)]).Perm (wL gm ca gq cq o cO st (newM (clM (celv L xs)) r) (fun _ => 0)) := by
    rw [List.append_nil]
    exact (List.perm_append_singleton _ _).trans (List.Perm.cons _ List.perm_append_comm)
  have hLw : LWd D (fun q : Nat => s.heap.size ≤ q) (wL gm ca gq cq o cO st (newM (clM (celv L xs)) r) (fun _ => 0)) s.heap H locs := ⟨lp_perm hpm hP, ld_perm hpm hD, hSv⟩
  have hKO : va_K D vwCl (tysO ca cO) s := va_K.app hKo hKb
  refine wl_loop (gm := gm) (gq := gq) (ca := ca) (cq := cq) (o := o) (cO := cO) (Rr := Rr) ⟨hx, hb, hml, hown, hts, ⟨hKO, hZ0, hN⟩, ⟨hKm, hZ0, hN⟩, hZ, hA, hX, hbl, hbA⟩ (Nat.le_trans hL (by decide)) (hS D gm gq ca cq o cO) ?_ 512 1 _ _ st _ _ H locs ls (by omega) (by omega) (by decide) (by decide) hR hLw ?_
  · intro H locs cells slots ls hSv hce hsl
    refine lv_iconst (v := 1) hx hb dw_790 rfl ?_
    refine W.widen (k := 601024) (n := 7293000) hce hsl ?_
    refine va_forget (fun q hq => hSv.2.2 q hq) ?_
    exact lw_ret hx hb hr hlocks dw_791
  · subst hg
    subst hgq
    exact lv_sub hl [4, 3, 2, 1, 0] rfl
