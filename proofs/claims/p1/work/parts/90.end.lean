/-! THE END: the relation is kept, the claim holds -/
theorem pe_0 : pu_0 Rel1 := by
  intro d st ms y1 y2 y3 h
  obtain ⟨n1, n2, n3, st', ms', z, k, r, h1, h2, h3, kk, hq⟩ := pr_0 d st ms y1 y2 y3 h.1
  exact ⟨n1, n2, n3, st', ms', z, k, r, h1, h2, h3, h.of kk, hq⟩
theorem pe_1 : pu_1 Rel1 := by
  intro d st ms y1 h
  obtain ⟨n1, n2, n3, st', ms', z, k, r, h1, h2, h3, kk, hq⟩ := pr_1 d st ms y1 h.1
  exact ⟨n1, n2, n3, st', ms', z, k, r, h1, h2, h3, h.of kk, hq⟩
theorem pe_2 : pu_2 Rel1 := by
  intro d st ms h
  obtain ⟨n1, n2, n3, ms', z, k, r, h1, h2, h3, kk, hq⟩ := pr_2 d st ms h.1
  exact ⟨n1, n2, n3, ms', z, k, r, h1, h2, h3, h.of kk, hq⟩
theorem pe_3 : pu_3 Rel1 := by
  intro d st ms y1 y2 h
  obtain ⟨ms', z, k, r, h1, h2, h3, kk, hw, hs⟩ := pr_3 d st ms y1 y2 h.1
  exact ⟨200, 200, 0, ms', z, k, r, h1, h2, h3, h.of kk, hs (h.kc y1)⟩
theorem pe_4 : pu_4 Rel1 := by
  intro d st ms y1 y2 h
  obtain ⟨ms', z, k, r, h1, h2, h3, kk, hw, hs⟩ := pr_4 d st ms y1 y2 h.1
  exact ⟨200, 200, 0, ms', z, k, r, h1, h2, h3, h.of kk, hs (h.kc y1)⟩
theorem pe_5 : pu_5 Rel1 := by
  intro d st ms y1 y2 h
  obtain ⟨ms', z, k, r, h1, h2, h3, kk, hw, hs⟩ := pr_5 d st ms y1 y2 h.1
  exact ⟨200, 200, 0, ms', z, k, r, h1, h2, h3, h.of kk, hs (h.kc y1)⟩
theorem pe_6 : pu_6 Rel1 := by
  intro d st ms y1 y2 h
  obtain ⟨ms', z, k, r, h1, h2, h3, kk, hw, hs⟩ := pr_6 d st ms y1 y2 h.1
  exact ⟨200, 200, 0, ms', z, k, r, h1, h2, h3, h.of kk, hs (h.kc y1)⟩
theorem pe_7 : pu_7 Rel1 := by
  intro d st ms y1 y2 h
  obtain ⟨ms', z, k, r, h1, h2, h3, kk, hw, hs⟩ := pr_7 d st ms y1 y2 h.1
  exact ⟨200, 200, 0, ms', z, k, r, h1, h2, h3, h.of kk, hs (h.kc y1) (h.kc y2)⟩
theorem pe_8 : pu_8 Rel1 := by
  intro d st ms h
  obtain ⟨n1, n2, n3, ms', z, k, r, h1, h2, h3, kk, hq⟩ := pr_8 d st ms h.1
  exact ⟨n1, n2, n3, ms', z, k, r, h1, h2, h3, h.of kk, hq⟩
theorem pe_9 : pu_9 Rel1 := by
  intro d st ms y1 h
  obtain ⟨n1, n2, n3, st', ms', z, k, r, h1, h2, h3, kk, hq⟩ := pr_9 d st ms y1 h.1
  exact ⟨n1, n2, n3, st', ms', z, k, r, h1, h2, h3, h.of kk, hq⟩
theorem pe_10 : pu_10 Rel1 := by
  intro d st ms h
  obtain ⟨n1, n2, st', ms', z, h1, h2, k⟩ := pr_10 d st ms h.1
  exact ⟨n1, n2, st', ms', z, h1, h2, h.of k⟩
theorem pe_11 : pu_11 Rel1 := by
  intro d st ms y1 y2 h
  obtain ⟨n1, n2, n3, ms', z, k, r, h1, h2, h3, kk, hq⟩ := pr_11 d st ms y1 y2 h.1
  exact ⟨n1, n2, n3, ms', z, k, r, h1, h2, h3, h.of kk, hq⟩
theorem pe_12 : pu_12 Rel1 := by
  intro d st ms y1 y2 h
  obtain ⟨n1, n2, n3, ms', z, k, r, h1, h2, h3, kk, hq⟩ := pr_12 d st ms y1 y2 h.1
  exact ⟨n1, n2, n3, ms', z, k, r, h1, h2, h3, h.of kk, hq⟩
theorem pe_13 : pu_13 Rel1 := by
  intro d st ms y1 y2 y3 y4 h
  obtain ⟨n1, n2, n3, st', ms', k, r, h1, h2, h3, kk, hq⟩ := pr_13 d st ms y1 y2 y3 y4 h.1
  exact ⟨n1, n2, n3, st', ms', k, r, h1, h2, h3, h.of kk, hq⟩
theorem pe_14 : pu_14 Rel1 := by
  intro d st ms y1 y2 y3 y4 h
  obtain ⟨n1, n2, n3, st', ms', k, r, h1, h2, h3, kk, hq⟩ := pr_14 d st ms y1 y2 y3 y4 h.1
  exact ⟨n1, n2, n3, st', ms', k, r, h1, h2, h3, h.of kk, hq⟩
theorem pe_15 : pu_15 Rel1 := by
  intro d st ms h
  obtain ⟨n1, n2, ms', z, h1, h2, k⟩ := pr_15 d st ms h.1
  exact ⟨n1, n2, ms', z, h1, h2, h.of k⟩
theorem pe_i : PI Rel1 := by
  intro x P h8 h64 hx
  obtain ⟨n, st, r, h1, h2, h3, h4⟩ := pr_i 1 (by omega) x P h8 h64 hx
  exact ⟨n, st, r, h1, h2, ⟨h3, Nat.le_refl _, fun _ => h4⟩⟩
theorem i_vc : Claimed_1_1 ∧ Claimed_1_2 := vc_pure ⟨pe_0, pe_1, pe_2, pe_3, pe_4, pe_5, pe_6, pe_7, pe_8, pe_9, pe_10, pe_11, pe_12, pe_13, pe_14, pe_15⟩ pe_i
