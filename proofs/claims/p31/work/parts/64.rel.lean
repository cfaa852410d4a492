/-! what both sides hold alike between two calls -/
theorem SeenR_add {W A k a w : Nat} {sa sw gs : Nat → Int32} (ha : a < A) (hw : w < W) (h : SeenR W A sa sw gs k) : SeenR W A (upd sa k (nI a)) (upd sw k (nI w)) (upd (upd gs (2 * k) (nI a)) (2 * k + 1) (nI w)) (k + 1) := by
  intro i hi
  by_cases q : i = k
  · subst q
    refine ⟨a, w, ha, hw, ?_, ?_, ?_, ?_⟩ <;> simp (disch := omega) only [u_ne, u_eq]
  · obtain ⟨b, v, h1, h2, h3, h4, h5, h6⟩ := h i (by omega)
    refine ⟨b, v, h1, h2, ?_, ?_, ?_, ?_⟩ <;> simp (disch := omega) only [u_ne, u_eq] <;> assumption
def Rel : InvT := fun cl len bc bl bp bk bw bn ba bf bh bpr sc pr pm pu kr km ku sa sw su gp gn gpa gu gk gkm gs gsm gt gsz => (∃ n : Nat, n ≤ 200 ∧ len = nI n ∧ gsz = nI n ∧ ∀ i, i < n → gt i = cl i) ∧ (∃ W L A : Nat, 1 ≤ A ∧ bw = nI W ∧ bn = nI L ∧ ba = nI A ∧ RB W L A bc bl bp bk bf bh bpr gp ∧ SR W L A gp sc gn ∧ (∃ k : Nat, k ≤ 8 ∧ pu = nI k ∧ gu = nI k ∧ ShR W L A gp pr gpa k) ∧ (∃ k : Nat, k ≤ 2 ∧ ku = nI k ∧ gkm = nI k ∧ ShR W L A gp kr gk k) ∧ (∃ k : Nat, k ≤ 6 ∧ su = nI k ∧ gsm = nI k ∧ SeenR W A sa sw gs k)) ∧ pm = nI 8 ∧ km = nI 2
