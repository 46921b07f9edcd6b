/-! WHAT IS LEFT, WITHOUT A MACHINE: both functional programs answer, alike, and keep a relation -/
theorem LM.frame {l : Launch} {y : MethodName} {rm : Room} {D : va_G} {ca : Nat → ClassId} {cO : ClassId} {As : List Value} {ws ws' : va_W} {r : XR} {e : Nat × va_E} (h : LM l y rm D (tysB ca) As ws r ws') : LM l y rm D (tysO ca cO) As (e :: ws) r (e :: ws') := by
  intro sz
  have sub : ∀ q, va_A ws sz q → va_A (e :: ws) sz q := by
    intro q hq
    rcases hq with ⟨k, e', hk⟩ | h
    · exact Or.inl ⟨k + 1, e', by simpa using hk⟩
    · exact Or.inr h
  refine MetX.imp (h sz) (fun a s hp => ?_) (fun a s o t hp hq => ?_) sub
  · exact ⟨hp.1, hp.2.1, ⟨lp_right (wc := [e]) hp.2.2.1.1, hp.2.2.1.2.tail⟩, ld_right (wc := [e]) hp.2.2.2⟩
  · obtain ⟨-, rfl, ⟨hP, hk⟩, hD⟩ := hp
    obtain ⟨h1, h2, h3, h4⟩ := hq
    have hj := lx_join (A := va_A (e :: ws) s.heap.size) (wc := ws) (wr := [e]) (lp_perm (List.perm_append_singleton _ _).symm hP) (ld_perm (List.perm_append_singleton _ _).symm hD.self) (fun q hq hn => h4.2 q hq hn) sub h2 h3
    exact ⟨h1, lp_perm (List.perm_append_singleton _ _) hj.1, ld_perm (List.perm_append_singleton _ _) hj.2, h4.1, fun q hq hn => h4.2 q hq (fun z => hn (sub q z))⟩
def pu_0 (Rr : Nat → BSt → MSt → Prop) : Prop := ∀ (d : Nat) (st : BSt) (ms : MSt) (y1 : Int32) (y2 : Int32) (y3 : Int32), Rr (d + 1) st ms → ∃ (n1 n2 : Nat) (st' : BSt) (ms' : MSt) (z : Int32) (r : Int32 ⊕ Nat), fb_put n1 st y1 (lvl y2 y3) = some (r, st') ∧ fm_put n2 ms y1 (lvl y2 y3) = some (z, ms') ∧ Rr d st' ms' ∧ ((∃ v, r = .inl v) ∨ r = .inr 0 ∨ r = .inr 1)
theorem ls_of_0 {l : Launch} (hfl : l.flags = flags0) {D : va_G} {gm gq : Nat → Nat} {ca cq : Nat → ClassId} {o : Nat} {cO : ClassId} {Rr : Nat → BSt → MSt → Prop} (hp : pu_0 Rr) : ls_0 l D gm gq ca cq o cO Rr := by
  intro d st ms f y1 y2 y3 hR
  obtain ⟨n1, n2, st', ms', z, r, h1, h2, hR', hq⟩ := hp d st ms y1 y2 y3 hR
  rcases hq with ⟨v, rfl⟩ | rfl | rfl
  · exact ⟨st', ms', vp_updL f 0 v.toInt64, 0, z, hR', cl_put_v (cb_put (l := l) hfl h1), MMm.lm (cq_put (l := l) hfl h2)⟩
  · exact ⟨st', ms', f, 1, z, hR', cl_put_t0 (cb_put (l := l) hfl h1), MMm.lm (cq_put (l := l) hfl h2)⟩
  · exact ⟨st', ms', f, 2, z, hR', cl_put_t1 (cb_put (l := l) hfl h1), MMm.lm (cq_put (l := l) hfl h2)⟩
def pu_1 (Rr : Nat → BSt → MSt → Prop) : Prop := ∀ (d : Nat) (st : BSt) (ms : MSt) (y1 : Int32), Rr (d + 1) st ms → ∃ (n1 n2 n3 : Nat) (st' : BSt) (ms' : MSt) (z : Int32) (k : Int32) (r : Int32 ⊕ Nat), fb_drop n1 st y1 = some (r, st') ∧ fm_drop n2 ms y1 = some (z, ms') ∧ fm_thrown n3 ms' = some k ∧ Rr d st' ms' ∧ ((∃ v, r = .inl v ∧ k = 0 ∧ v.toInt64 = z.toInt64) ∨ (r = .inr 0 ∧ k = 1) ∨ (r = .inr 1 ∧ k = 2))
theorem ls_of_1 {l : Launch} (hfl : l.flags = flags0) {D : va_G} {gm gq : Nat → Nat} {ca cq : Nat → ClassId} {o : Nat} {cO : ClassId} {Rr : Nat → BSt → MSt → Prop} (hp : pu_1 Rr) : ls_1 l D gm gq ca cq o cO Rr := by
  intro d st ms f y1 hR
  obtain ⟨n1, n2, n3, st', ms', z, k, r, h1, h2, h3, hR', hq⟩ := hp d st ms y1 hR
  rcases hq with ⟨v, rfl, rfl, hv⟩ | ⟨rfl, rfl⟩ | ⟨rfl, rfl⟩
  · exact ⟨st', ms', vp_updL f 0 v.toInt64, 0, z, hR', cl_drop_v (cb_drop (l := l) hfl h1), MMm.lm (cq_drop (l := l) hfl h2), RMm.lm (cq_thrown (l := l) hfl h3), fun _ => hv⟩
  · exact ⟨st', ms', f, 1, z, hR', cl_drop_t0 (cb_drop (l := l) hfl h1), MMm.lm (cq_drop (l := l) hfl h2), RMm.lm (cq_thrown (l := l) hfl h3), fun h => absurd h (by decide)⟩
  · exact ⟨st', ms', f, 2, z, hR', cl_drop_t1 (cb_drop (l := l) hfl h1), MMm.lm (cq_drop (l := l) hfl h2), RMm.lm (cq_thrown (l := l) hfl h3), fun h => absurd h (by decide)⟩
def pu_2 (Rr : Nat → BSt → MSt → Prop) : Prop := ∀ (d : Nat) (st : BSt) (ms : MSt), Rr (d + 1) st ms → ∃ (n1 n2 : Nat) (ms' : MSt) (z : Int32) (r : Int32 ⊕ Nat), fb_version n1 st = some r ∧ fm_version n2 ms = some (z, ms') ∧ Rr d st ms' ∧ ((∃ v, r = .inl v) ∨ r = .inr 0)
theorem ls_of_2 {l : Launch} (hfl : l.flags = flags0) {D : va_G} {gm gq : Nat → Nat} {ca cq : Nat → ClassId} {o : Nat} {cO : ClassId} {Rr : Nat → BSt → MSt → Prop} (hp : pu_2 Rr) : ls_2 l D gm gq ca cq o cO Rr := by
  intro d st ms f hR
  obtain ⟨n1, n2, ms', z, r, h1, h2, hR', hq⟩ := hp d st ms hR
  rcases hq with ⟨v, rfl⟩ | rfl
  · exact ⟨st, ms', vp_updL f 0 v.toInt64, 0, z, hR', cl_version_v (cb_version (l := l) hfl h1), MMm.lm (cq_version (l := l) hfl h2)⟩
  · exact ⟨st, ms', f, 1, z, hR', cl_version_t0 (cb_version (l := l) hfl h1), MMm.lm (cq_version (l := l) hfl h2)⟩
def pu_3 (Rr : Nat → BSt → MSt → Prop) : Prop := ∀ (d : Nat) (st : BSt) (ms : MSt) (y1 : Int32) (y2 : Int32), Rr (d + 1) st ms → ∃ (n1 n2 : Nat) (ms' : MSt) (z : Int32) (r : Int32 ⊕ Nat), fb_has n1 st y1 y2 = some r ∧ fm_has n2 ms y1 y2 = some (z, ms') ∧ Rr d st ms' ∧ ((∃ v, r = .inl v) ∨ r = .inr 0 ∨ r = .inr 2)
theorem ls_of_3 {l : Launch} (hfl : l.flags = flags0) {D : va_G} {gm gq : Nat → Nat} {ca cq : Nat → ClassId} {o : Nat} {cO : ClassId} {Rr : Nat → BSt → MSt → Prop} (hp : pu_3 Rr) : ls_3 l D gm gq ca cq o cO Rr := by
  intro d st ms f y1 y2 hR
  obtain ⟨n1, n2, ms', z, r, h1, h2, hR', hq⟩ := hp d st ms y1 y2 hR
  rcases hq with ⟨v, rfl⟩ | rfl | rfl
  · exact ⟨st, ms', vp_updL f 0 (if v = 0 then 0 else 1), 0, z, hR', cl_has_v (cb_has (l := l) hfl h1), MMm.lm (cq_has (l := l) hfl h2)⟩
  · exact ⟨st, ms', f, 1, z, hR', cl_has_t0 (cb_has (l := l) hfl h1), MMm.lm (cq_has (l := l) hfl h2)⟩
  · exact ⟨st, ms', f, 2, z, hR', cl_has_t2 (cb_has (l := l) hfl h1), MMm.lm (cq_has (l := l) hfl h2)⟩
def pu_4 (Rr : Nat → BSt → MSt → Prop) : Prop := ∀ (d : Nat) (st : BSt) (ms : MSt) (y1 : Int32) (y2 : Int32), Rr (d + 1) st ms → ∃ (n1 n2 : Nat) (ms' : MSt) (z : Int64) (r : Int64 ⊕ Nat), fb_find n1 st y1 y2 = some r ∧ fm_find n2 ms y1 y2 = some (z, ms') ∧ Rr d st ms' ∧ ((∃ v, r = .inl v) ∨ r = .inr 0 ∨ r = .inr 2)
theorem ls_of_4 {l : Launch} (hfl : l.flags = flags0) {D : va_G} {gm gq : Nat → Nat} {ca cq : Nat → ClassId} {o : Nat} {cO : ClassId} {Rr : Nat → BSt → MSt → Prop} (hp : pu_4 Rr) : ls_4 l D gm gq ca cq o cO Rr := by
  intro d st ms f y1 y2 hR
  obtain ⟨n1, n2, ms', z, r, h1, h2, hR', hq⟩ := hp d st ms y1 y2 hR
  rcases hq with ⟨v, rfl⟩ | rfl | rfl
  · exact ⟨st, ms', vp_updL f 0 v, 0, z, hR', cl_find_v (cb_find (l := l) hfl h1), MMm.lm (cq_find (l := l) hfl h2)⟩
  · exact ⟨st, ms', f, 1, z, hR', cl_find_t0 (cb_find (l := l) hfl h1), MMm.lm (cq_find (l := l) hfl h2)⟩
  · exact ⟨st, ms', f, 2, z, hR', cl_find_t2 (cb_find (l := l) hfl h1), MMm.lm (cq_find (l := l) hfl h2)⟩
def pu_5 (Rr : Nat → BSt → MSt → Prop) : Prop := ∀ (d : Nat) (st : BSt) (ms : MSt) (y1 : Int32) (y2 : Int32), Rr (d + 1) st ms → ∃ (n1 n2 : Nat) (ms' : MSt) (z : Int32) (r : Int32 ⊕ Nat), fb_count n1 st y1 y2 = some r ∧ fm_count n2 ms y1 y2 = some (z, ms') ∧ Rr d st ms' ∧ ((∃ v, r = .inl v) ∨ r = .inr 0 ∨ r = .inr 2 ∨ r = .inr 1)
theorem ls_of_5 {l : Launch} (hfl : l.flags = flags0) {D : va_G} {gm gq : Nat → Nat} {ca cq : Nat → ClassId} {o : Nat} {cO : ClassId} {Rr : Nat → BSt → MSt → Prop} (hp : pu_5 Rr) : ls_5 l D gm gq ca cq o cO Rr := by
  intro d st ms f y1 y2 hR
  obtain ⟨n1, n2, ms', z, r, h1, h2, hR', hq⟩ := hp d st ms y1 y2 hR
  rcases hq with ⟨v, rfl⟩ | rfl | rfl | rfl
  · exact ⟨st, ms', vp_updL f 0 v.toInt64, 0, z, hR', cl_count_v (cb_count (l := l) hfl h1), MMm.lm (cq_count (l := l) hfl h2)⟩
  · exact ⟨st, ms', f, 1, z, hR', cl_count_t0 (cb_count (l := l) hfl h1), MMm.lm (cq_count (l := l) hfl h2)⟩
  · exact ⟨st, ms', f, 2, z, hR', cl_count_t2 (cb_count (l := l) hfl h1), MMm.lm (cq_count (l := l) hfl h2)⟩
  · exact ⟨st, ms', f, 3, z, hR', cl_count_t1 (cb_count (l := l) hfl h1), MMm.lm (cq_count (l := l) hfl h2)⟩
def pu_6 (Rr : Nat → BSt → MSt → Prop) : Prop := ∀ (d : Nat) (st : BSt) (ms : MSt) (y1 : Int32) (y2 : Int32), Rr (d + 1) st ms → ∃ (n1 n2 : Nat) (ms' : MSt) (z : Int32) (r : Int32 ⊕ Nat), fb_key n1 st y1 y2 = some r ∧ fm_key n2 ms y1 y2 = some (z, ms') ∧ Rr d st ms' ∧ ((∃ v, r = .inl v) ∨ r = .inr 0 ∨ r = .inr 2)
theorem ls_of_6 {l : Launch} (hfl : l.flags = flags0) {D : va_G} {gm gq : Nat → Nat} {ca cq : Nat → ClassId} {o : Nat} {cO : ClassId} {Rr : Nat → BSt → MSt → Prop} (hp : pu_6 Rr) : ls_6 l D gm gq ca cq o cO Rr := by
  intro d st ms f y1 y2 hR
  obtain ⟨n1, n2, ms', z, r, h1, h2, hR', hq⟩ := hp d st ms y1 y2 hR
  rcases hq with ⟨v, rfl⟩ | rfl | rfl
  · exact ⟨st, ms', vp_updL f 0 v.toInt64, 0, z, hR', cl_key_v (cb_key (l := l) hfl h1), MMm.lm (cq_key (l := l) hfl h2)⟩
  · exact ⟨st, ms', f, 1, z, hR', cl_key_t0 (cb_key (l := l) hfl h1), MMm.lm (cq_key (l := l) hfl h2)⟩
  · exact ⟨st, ms', f, 2, z, hR', cl_key_t2 (cb_key (l := l) hfl h1), MMm.lm (cq_key (l := l) hfl h2)⟩
def pu_7 (Rr : Nat → BSt → MSt → Prop) : Prop := ∀ (d : Nat) (st : BSt) (ms : MSt) (y1 : Int32) (y2 : Int32), Rr (d + 1) st ms → ∃ (n1 n2 : Nat) (ms' : MSt) (z : Int32) (r : Int32 ⊕ Nat), fb_same n1 st y1 y2 = some r ∧ fm_same n2 ms y1 y2 = some (z, ms') ∧ Rr d st ms' ∧ ((∃ v, r = .inl v) ∨ r = .inr 0 ∨ r = .inr 2)
theorem ls_of_7 {l : Launch} (hfl : l.flags = flags0) {D : va_G} {gm gq : Nat → Nat} {ca cq : Nat → ClassId} {o : Nat} {cO : ClassId} {Rr : Nat → BSt → MSt → Prop} (hp : pu_7 Rr) : ls_7 l D gm gq ca cq o cO Rr := by
  intro d st ms f y1 y2 hR
  obtain ⟨n1, n2, ms', z, r, h1, h2, hR', hq⟩ := hp d st ms y1 y2 hR
  rcases hq with ⟨v, rfl⟩ | rfl | rfl
  · exact ⟨st, ms', vp_updL f 0 (if v = 0 then 0 else 1), 0, z, hR', cl_same_v (cb_same (l := l) hfl h1), MMm.lm (cq_same (l := l) hfl h2)⟩
  · exact ⟨st, ms', f, 1, z, hR', cl_same_t0 (cb_same (l := l) hfl h1), MMm.lm (cq_same (l := l) hfl h2)⟩
  · exact ⟨st, ms', f, 2, z, hR', cl_same_t2 (cb_same (l := l) hfl h1), MMm.lm (cq_same (l := l) hfl h2)⟩
def pu_8 (Rr : Nat → BSt → MSt → Prop) : Prop := ∀ (d : Nat) (st : BSt) (ms : MSt), Rr (d + 1) st ms → ∃ (n1 n2 : Nat) (ms' : MSt) (z : Int32) (r : Int32 ⊕ Nat), fb_free n1 st = some r ∧ fm_free n2 ms = some (z, ms') ∧ Rr d st ms' ∧ ((∃ v, r = .inl v) ∨ r = .inr 0)
theorem ls_of_8 {l : Launch} (hfl : l.flags = flags0) {D : va_G} {gm gq : Nat → Nat} {ca cq : Nat → ClassId} {o : Nat} {cO : ClassId} {Rr : Nat → BSt → MSt → Prop} (hp : pu_8 Rr) : ls_8 l D gm gq ca cq o cO Rr := by
  intro d st ms f hR
  obtain ⟨n1, n2, ms', z, r, h1, h2, hR', hq⟩ := hp d st ms hR
  rcases hq with ⟨v, rfl⟩ | rfl
  · exact ⟨st, ms', vp_updL f 0 v.toInt64, 0, z, hR', cl_free_v (cb_free (l := l) hfl h1), MMm.lm (cq_free (l := l) hfl h2)⟩
  · exact ⟨st, ms', f, 1, z, hR', cl_free_t0 (cb_free (l := l) hfl h1), MMm.lm (cq_free (l := l) hfl h2)⟩
def pu_9 (Rr : Nat → BSt → MSt → Prop) : Prop := ∀ (d : Nat) (st : BSt) (ms : MSt) (y1 : Int32), Rr (d + 1) st ms → ∃ (n1 n2 : Nat) (st' : BSt) (ms' : MSt) (z : Int32) (r : Int32 ⊕ Nat), fb_crash n1 st y1 = some (r, st') ∧ fm_crash n2 ms y1 = some (z, ms') ∧ Rr d st' ms' ∧ ((∃ v, r = .inl v) ∨ r = .inr 0 ∨ r = .inr 1)
theorem ls_of_9 {l : Launch} (hfl : l.flags = flags0) {D : va_G} {gm gq : Nat → Nat} {ca cq : Nat → ClassId} {o : Nat} {cO : ClassId} {Rr : Nat → BSt → MSt → Prop} (hp : pu_9 Rr) : ls_9 l D gm gq ca cq o cO Rr := by
  intro d st ms f y1 hR
  obtain ⟨n1, n2, st', ms', z, r, h1, h2, hR', hq⟩ := hp d st ms y1 hR
  rcases hq with ⟨v, rfl⟩ | rfl | rfl
  · exact ⟨st', ms', vp_updL f 0 v.toInt64, 0, z, hR', cl_crash_v (cb_crash (l := l) hfl h1), MMm.lm (cq_crash (l := l) hfl h2)⟩
  · exact ⟨st', ms', f, 1, z, hR', cl_crash_t0 (cb_crash (l := l) hfl h1), MMm.lm (cq_crash (l := l) hfl h2)⟩
  · exact ⟨st', ms', f, 2, z, hR', cl_crash_t1 (cb_crash (l := l) hfl h1), MMm.lm (cq_crash (l := l) hfl h2)⟩
def pu_10 (Rr : Nat → BSt → MSt → Prop) : Prop := ∀ (d : Nat) (st : BSt) (ms : MSt), Rr (d + 1) st ms → ∃ (n1 n2 : Nat) (st' : BSt) (ms' : MSt) (z z2 : Int32), fb_reopen n1 st = some (z, st') ∧ fm_reopen n2 ms = some (z2, ms') ∧ Rr d st' ms'
theorem ls_of_10 {l : Launch} (hfl : l.flags = flags0) {D : va_G} {gm gq : Nat → Nat} {ca cq : Nat → ClassId} {o : Nat} {cO : ClassId} {Rr : Nat → BSt → MSt → Prop} (hp : pu_10 Rr) : ls_10 l D gm gq ca cq o cO Rr := by
  intro d st ms f hR
  obtain ⟨n1, n2, st', ms', z, z2, h1, h2, hR'⟩ := hp d st ms hR
  exact ⟨st', ms', z, z2, hR', MM.lm (cb_reopen (l := l) hfl h1), MMm.lm (cq_reopen (l := l) hfl h2)⟩
def pu_11 (Rr : Nat → BSt → MSt → Prop) : Prop := ∀ (d : Nat) (st : BSt) (ms : MSt) (y1 : Int32) (y2 : Int32), Rr (d + 1) st ms → ∃ (n1 n2 : Nat) (ms' : MSt) (z : Int64) (r : Int64 ⊕ Nat), fb_wordAt n1 st y1 y2 = some r ∧ fm_wordAt n2 ms y1 y2 = some (z, ms') ∧ Rr d st ms' ∧ ((∃ v, r = .inl v) ∨ r = .inr 2)
theorem ls_of_11 {l : Launch} (hfl : l.flags = flags0) {D : va_G} {gm gq : Nat → Nat} {ca cq : Nat → ClassId} {o : Nat} {cO : ClassId} {Rr : Nat → BSt → MSt → Prop} (hp : pu_11 Rr) : ls_11 l D gm gq ca cq o cO Rr := by
  intro d st ms f y1 y2 hR
  obtain ⟨n1, n2, ms', z, r, h1, h2, hR', hq⟩ := hp d st ms y1 y2 hR
  rcases hq with ⟨v, rfl⟩ | rfl
  · exact ⟨st, ms', vp_updL f 0 v, 0, z, hR', cl_wordAt_v (cb_wordAt (l := l) hfl h1), MMm.lm (cq_wordAt (l := l) hfl h2)⟩
  · exact ⟨st, ms', f, 1, z, hR', cl_wordAt_t2 (cb_wordAt (l := l) hfl h1), MMm.lm (cq_wordAt (l := l) hfl h2)⟩
def pu_12 (Rr : Nat → BSt → MSt → Prop) : Prop := ∀ (d : Nat) (st : BSt) (ms : MSt) (y1 : Int32) (y2 : Int32), Rr (d + 1) st ms → ∃ (n1 n2 : Nat) (ms' : MSt) (z : Int64) (r : Int64 ⊕ Nat), fb_rootAt n1 st y1 y2 = some r ∧ fm_rootAt n2 ms y1 y2 = some (z, ms') ∧ Rr d st ms' ∧ ((∃ v, r = .inl v) ∨ r = .inr 2)
theorem ls_of_12 {l : Launch} (hfl : l.flags = flags0) {D : va_G} {gm gq : Nat → Nat} {ca cq : Nat → ClassId} {o : Nat} {cO : ClassId} {Rr : Nat → BSt → MSt → Prop} (hp : pu_12 Rr) : ls_12 l D gm gq ca cq o cO Rr := by
  intro d st ms f y1 y2 hR
  obtain ⟨n1, n2, ms', z, r, h1, h2, hR', hq⟩ := hp d st ms y1 y2 hR
  rcases hq with ⟨v, rfl⟩ | rfl
  · exact ⟨st, ms', vp_updL f 0 v, 0, z, hR', cl_rootAt_v (cb_rootAt (l := l) hfl h1), MMm.lm (cq_rootAt (l := l) hfl h2)⟩
  · exact ⟨st, ms', f, 1, z, hR', cl_rootAt_t2 (cb_rootAt (l := l) hfl h1), MMm.lm (cq_rootAt (l := l) hfl h2)⟩
def pu_13 (Rr : Nat → BSt → MSt → Prop) : Prop := ∀ (d : Nat) (st : BSt) (ms : MSt) (y1 : Int32) (y2 : Int32) (y3 : Int32) (y4 : Int32), Rr (d + 1) st ms → ∃ (n1 n2 : Nat) (st' : BSt) (ms' : MSt) (r : Unit ⊕ Nat), fb_poke n1 st y1 y2 (lvl y3 y4) = some (r, st') ∧ fm_poke n2 ms y1 y2 (lvl y3 y4) = some ms' ∧ Rr d st' ms' ∧ ((∃ v, r = .inl v) ∨ r = .inr 2 ∨ r = .inr 1)
theorem ls_of_13 {l : Launch} (hfl : l.flags = flags0) {D : va_G} {gm gq : Nat → Nat} {ca cq : Nat → ClassId} {o : Nat} {cO : ClassId} {Rr : Nat → BSt → MSt → Prop} (hp : pu_13 Rr) : ls_13 l D gm gq ca cq o cO Rr := by
  intro d st ms f y1 y2 y3 y4 hR
  obtain ⟨n1, n2, st', ms', r, h1, h2, hR', hq⟩ := hp d st ms y1 y2 y3 y4 hR
  rcases hq with ⟨v, rfl⟩ | rfl | rfl
  · exact ⟨st', ms', 0, hR', LM.frame (cl_poke_v (cb_poke (l := l) hfl h1)), MMm.lm (cq_poke (l := l) hfl h2)⟩
  · exact ⟨st', ms', 1, hR', LM.frame (cl_poke_t2 (cb_poke (l := l) hfl h1)), MMm.lm (cq_poke (l := l) hfl h2)⟩
  · exact ⟨st', ms', 2, hR', LM.frame (cl_poke_t1 (cb_poke (l := l) hfl h1)), MMm.lm (cq_poke (l := l) hfl h2)⟩
def pu_14 (Rr : Nat → BSt → MSt → Prop) : Prop := ∀ (d : Nat) (st : BSt) (ms : MSt) (y1 : Int32) (y2 : Int32) (y3 : Int32) (y4 : Int32), Rr (d + 1) st ms → ∃ (n1 n2 : Nat) (st' : BSt) (ms' : MSt) (r : Unit ⊕ Nat), fb_pokeRoot n1 st y1 y2 (lvl y3 y4) = some (r, st') ∧ fm_pokeRoot n2 ms y1 y2 (lvl y3 y4) = some ms' ∧ Rr d st' ms' ∧ ((∃ v, r = .inl v) ∨ r = .inr 2 ∨ r = .inr 1)
theorem ls_of_14 {l : Launch} (hfl : l.flags = flags0) {D : va_G} {gm gq : Nat → Nat} {ca cq : Nat → ClassId} {o : Nat} {cO : ClassId} {Rr : Nat → BSt → MSt → Prop} (hp : pu_14 Rr) : ls_14 l D gm gq ca cq o cO Rr := by
  intro d st ms f y1 y2 y3 y4 hR
  obtain ⟨n1, n2, st', ms', r, h1, h2, hR', hq⟩ := hp d st ms y1 y2 y3 y4 hR
  rcases hq with ⟨v, rfl⟩ | rfl | rfl
  · exact ⟨st', ms', 0, hR', LM.frame (cl_pokeRoot_v (cb_pokeRoot (l := l) hfl h1)), MMm.lm (cq_pokeRoot (l := l) hfl h2)⟩
  · exact ⟨st', ms', 1, hR', LM.frame (cl_pokeRoot_t2 (cb_pokeRoot (l := l) hfl h1)), MMm.lm (cq_pokeRoot (l := l) hfl h2)⟩
  · exact ⟨st', ms', 2, hR', LM.frame (cl_pokeRoot_t1 (cb_pokeRoot (l := l) hfl h1)), MMm.lm (cq_pokeRoot (l := l) hfl h2)⟩
def pu_15 (Rr : Nat → BSt → MSt → Prop) : Prop := ∀ (d : Nat) (st : BSt) (ms : MSt), Rr (d + 1) st ms → ∃ (n1 n2 : Nat) (ms' : MSt) (z z2 : Int32), fb_badAt n1 st = some z ∧ fm_badAt n2 ms = some (z2, ms') ∧ Rr d st ms'
theorem ls_of_15 {l : Launch} (hfl : l.flags = flags0) {D : va_G} {gm gq : Nat → Nat} {ca cq : Nat → ClassId} {o : Nat} {cO : ClassId} {Rr : Nat → BSt → MSt → Prop} (hp : pu_15 Rr) : ls_15 l D gm gq ca cq o cO Rr := by
  intro d st ms f hR
  obtain ⟨n1, n2, ms', z, z2, h1, h2, hR'⟩ := hp d st ms hR
  exact ⟨st, ms', z, z2, hR', RM.lm (cb_badAt (l := l) hfl h1), MMm.lm (cq_badAt (l := l) hfl h2)⟩
def PU (Rr : Nat → BSt → MSt → Prop) : Prop := pu_0 Rr ∧ pu_1 Rr ∧ pu_2 Rr ∧ pu_3 Rr ∧ pu_4 Rr ∧ pu_5 Rr ∧ pu_6 Rr ∧ pu_7 Rr ∧ pu_8 Rr ∧ pu_9 Rr ∧ pu_10 Rr ∧ pu_11 Rr ∧ pu_12 Rr ∧ pu_13 Rr ∧ pu_14 Rr ∧ pu_15 Rr
def PI (Rr : Nat → BSt → MSt → Prop) : Prop := ∀ (x : Int32) (P : Nat), 8 ≤ P → P ≤ 64 → clM x = nI P → ∃ (n : Nat) (st' : BSt) (r : Int64), fb_makeRootZeroAnew n (fB0 P) = some st' ∧ fm_sum n (fM0 (clM x)) 1024 19 = some r ∧ Rr 512 st' (newM (clM x) r)
/-- the claim, out of a relation on the two functional programs -/
theorem vc_pure {Rr : Nat → BSt → MSt → Prop} (hp : PU Rr) (hi : PI Rr) : Claimed_1_1 ∧ Claimed_1_2 := by
  obtain ⟨p0, p1, p2, p3, p4, p5, p6, p7, p8, p9, p10, p11, p12, p13, p14, p15⟩ := hp
  exact vc_of (Rr := Rr) (fun l hfl D gm gq ca cq o cO => ⟨ls_of_0 hfl p0, ls_of_1 hfl p1, ls_of_2 hfl p2, ls_of_3 hfl p3, ls_of_4 hfl p4, ls_of_5 hfl p5, ls_of_6 hfl p6, ls_of_7 hfl p7, ls_of_8 hfl p8, ls_of_9 hfl p9, ls_of_10 hfl p10, ls_of_11 hfl p11, ls_of_12 hfl p12, ls_of_13 hfl p13, ls_of_14 hfl p14, ls_of_15 hfl p15⟩) hi
