/-! THE END: the relation is kept, the claim holds -/
theorem pe_0 : pu_0 Rel := by
  intro d st ms y1 y2 y3 h
  obtain ⟨n1, n2, n3, st', ms', z, k, r, h1, h2, h3, kk, hq⟩ := pr_0 d st ms y1 y2 y3 h
  refine ⟨n1, n2, st', ms', z, r, h1, h2, kk, ?_⟩
  rcases hq with ⟨v, e, -⟩ | ⟨e, -⟩ | ⟨e, -⟩
  · exact Or.inl ⟨v, e⟩
  · exact Or.inr (Or.inl e)
  · exact Or.inr (Or.inr (e))
theorem pe_1 : pu_1 Rel := by
  intro d st ms y1 h
  obtain ⟨n1, n2, n3, st', ms', z, k, r, h1, h2, h3, kk, hq⟩ := pr_1 d st ms y1 h
  exact ⟨n1, n2, n3, st', ms', z, k, r, h1, h2, h3, kk, hq⟩
theorem pe_2 : pu_2 Rel := by
  intro d st ms h
  obtain ⟨n1, n2, n3, ms', z, k, r, h1, h2, h3, kk, hq⟩ := pr_2 d st ms h
  refine ⟨n1, n2, ms', z, r, h1, h2, kk, ?_⟩
  rcases hq with ⟨v, e, -⟩ | ⟨e, -⟩
  · exact Or.inl ⟨v, e⟩
  · exact Or.inr (e)
theorem pe_3 : pu_3 Rel := by
  intro d st ms y1 y2 h
  obtain ⟨ms', z, k, r, h1, h2, h3, kk, hw, hs⟩ := pr_3 d st ms y1 y2 h
  exact ⟨200, 200, ms', z, r, h1, h2, kk, hw⟩
theorem pe_4 : pu_4 Rel := by
  intro d st ms y1 y2 h
  obtain ⟨ms', z, k, r, h1, h2, h3, kk, hw, hs⟩ := pr_4 d st ms y1 y2 h
  exact ⟨200, 200, ms', z, r, h1, h2, kk, hw⟩
theorem pe_5 : pu_5 Rel := by
  intro d st ms y1 y2 h
  obtain ⟨ms', z, k, r, h1, h2, h3, kk, hw, hs⟩ := pr_5 d st ms y1 y2 h
  exact ⟨200, 200, ms', z, r, h1, h2, kk, hw⟩
theorem pe_6 : pu_6 Rel := by
  intro d st ms y1 y2 h
  obtain ⟨ms', z, k, r, h1, h2, h3, kk, hw, hs⟩ := pr_6 d st ms y1 y2 h
  exact ⟨200, 200, ms', z, r, h1, h2, kk, hw⟩
theorem pe_7 : pu_7 Rel := by
  intro d st ms y1 y2 h
  obtain ⟨ms', z, k, r, h1, h2, h3, kk, hw, hs⟩ := pr_7 d st ms y1 y2 h
  exact ⟨200, 200, ms', z, r, h1, h2, kk, hw⟩
theorem pe_8 : pu_8 Rel := by
  intro d st ms h
  obtain ⟨n1, n2, n3, ms', z, k, r, h1, h2, h3, kk, hq⟩ := pr_8 d st ms h
  refine ⟨n1, n2, ms', z, r, h1, h2, kk, ?_⟩
  rcases hq with ⟨v, e, -⟩ | ⟨e, -⟩
  · exact Or.inl ⟨v, e⟩
  · exact Or.inr (e)
theorem pe_9 : pu_9 Rel := by
  intro d st ms y1 h
  obtain ⟨n1, n2, n3, st', ms', z, k, r, h1, h2, h3, kk, hq⟩ := pr_9 d st ms y1 h
  refine ⟨n1, n2, st', ms', z, r, h1, h2, kk, ?_⟩
  rcases hq with ⟨v, e, -⟩ | ⟨e, -⟩ | ⟨e, -⟩
  · exact Or.inl ⟨v, e⟩
  · exact Or.inr (Or.inl e)
  · exact Or.inr (Or.inr (e))
theorem pe_10 : pu_10 Rel := by
  intro d st ms h
  obtain ⟨n1, n2, st', ms', z, h1, h2, k⟩ := pr_10 d st ms h
  exact ⟨n1, n2, st', ms', z, z, h1, h2, k⟩
theorem pe_11 : pu_11 Rel := by
  intro d st ms y1 y2 h
  obtain ⟨n1, n2, n3, ms', z, k, r, h1, h2, h3, kk, hq⟩ := pr_11 d st ms y1 y2 h
  refine ⟨n1, n2, ms', z, r, h1, h2, kk, ?_⟩
  rcases hq with ⟨v, e, -⟩ | ⟨e, -⟩
  · exact Or.inl ⟨v, e⟩
  · exact Or.inr (e)
theorem pe_12 : pu_12 Rel := by
  intro d st ms y1 y2 h
  obtain ⟨n1, n2, n3, ms', z, k, r, h1, h2, h3, kk, hq⟩ := pr_12 d st ms y1 y2 h
  refine ⟨n1, n2, ms', z, r, h1, h2, kk, ?_⟩
  rcases hq with ⟨v, e, -⟩ | ⟨e, -⟩
  · exact Or.inl ⟨v, e⟩
  · exact Or.inr (e)
theorem pe_13 : pu_13 Rel := by
  intro d st ms y1 y2 y3 y4 h
  obtain ⟨n1, n2, n3, st', ms', k, r, h1, h2, h3, kk, hq⟩ := pr_13 d st ms y1 y2 y3 y4 h
  refine ⟨n1, n2, st', ms', r, h1, h2, kk, ?_⟩
  rcases hq with ⟨v, e, -⟩ | ⟨e, -⟩ | ⟨e, -⟩
  · exact Or.inl ⟨v, e⟩
  · exact Or.inr (Or.inl e)
  · exact Or.inr (Or.inr (e))
theorem pe_14 : pu_14 Rel := by
  intro d st ms y1 y2 y3 y4 h
  obtain ⟨n1, n2, n3, st', ms', k, r, h1, h2, h3, kk, hq⟩ := pr_14 d st ms y1 y2 y3 y4 h
  refine ⟨n1, n2, st', ms', r, h1, h2, kk, ?_⟩
  rcases hq with ⟨v, e, -⟩ | ⟨e, -⟩ | ⟨e, -⟩
  · exact Or.inl ⟨v, e⟩
  · exact Or.inr (Or.inl e)
  · exact Or.inr (Or.inr (e))
theorem pe_15 : pu_15 Rel := by
  intro d st ms h
  obtain ⟨n1, n2, ms', z, h1, h2, k⟩ := pr_15 d st ms h
  exact ⟨n1, n2, ms', z, z, h1, h2, k⟩
theorem pe_i : PI Rel := by
  intro x P h8 h64 hx
  obtain ⟨n, st, r, h1, h2, h3, h4⟩ := pr_i 512 (by omega) x P h8 h64 hx
  exact ⟨n, st, r, h1, h2, h3⟩
theorem i_vc : Claimed_1_1 ∧ Claimed_1_2 := vc_pure ⟨pe_0, pe_1, pe_2, pe_3, pe_4, pe_5, pe_6, pe_7, pe_8, pe_9, pe_10, pe_11, pe_12, pe_13, pe_14, pe_15⟩ pe_i
