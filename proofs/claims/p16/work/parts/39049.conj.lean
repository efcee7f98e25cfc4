/-! ===== two contracts of one call hold together ===== -/
theorem ended_within {s : State} {below : List Frame} {o : Outcome} (h : Ended s below o) (w : Within s below) : False := by
  obtain ⟨ab, e, ne, nt⟩ := w
  have hp : 0 < ab.length := List.length_pos_iff.mpr ne
  cases o with
  | threw a =>
    have h' : s.frames = .throwing a :: below := h
    rw [e] at h'
    have : ab = [.throwing a] := List.append_cancel_right (as := ab) (bs := below) (cs := [.throwing a]) (by simpa using h')
    exact nt a this
  | returned v =>
    have hl : s.frames.length = below.length := by
      unfold Ended at h
      dsimp only at h
      split at h
      · obtain ⟨c, i, len, -, -, h⟩ := h; rw [h]; rfl
      · rw [h]; rfl
      · rw [h]; rfl
      · rw [h.2]
    rw [e, List.length_append] at hl
    omega
theorem ended_one {tb : Tables} {e : Env} {s : State} {below : List Frame} {n1 n2 : Nat} {o1 o2 : Outcome} (w1 : ∀ k, k < n1 → Within (stepsAlone tb e k s) below) (e1 : Ended (stepsAlone tb e n1 s) below o1) (w2 : ∀ k, k < n2 → Within (stepsAlone tb e k s) below) (e2 : Ended (stepsAlone tb e n2 s) below o2) : n1 = n2 := by
  rcases Nat.lt_trichotomy n1 n2 with h | h | h
  · exact (ended_within e1 (w2 n1 h)).elim
  · exact h
  · exact (ended_within e2 (w1 n2 h)).elim
theorem ended_val {s : State} {below : List Frame} {o1 o2 : Outcome} (h1 : Ended s below o1) (h2 : Ended s below o2) : o1 = o2 := by
  have len : ∀ v, Ended s below (.returned v) → s.frames.length = below.length := by
    intro v h
    unfold Ended at h
    dsimp only at h
    split at h
    · obtain ⟨c, i, len, -, -, h⟩ := h; rw [h]; rfl
    · rw [h]; rfl
    · rw [h]; rfl
    · rw [h.2]
  have thr : ∀ a, Ended s below (.threw a) → s.frames = .throwing a :: below := fun a h => h
  cases o1 with
  | threw a =>
    have e1 := thr a h1
    cases o2 with
    | threw b => have e2 := thr b h2; rw [e1] at e2; injection e2 with e3 _; injection e3 with e4; rw [e4]
    | returned v => have := len v h2; rw [e1, List.length_cons] at this; omega
  | returned v =>
    cases o2 with
    | threw b => have e2 := thr b h2; have := len v h1; rw [e2, List.length_cons] at this; omega
    | returned w =>
      congr 1
      unfold Ended at h1 h2
      dsimp only at h1 h2
      split at h1
      · obtain ⟨c, i, l, x1, x2, x3⟩ := h1
        obtain ⟨c', i', l', y1, y2, y3⟩ := h2
        rw [x3] at y3
        injection y3 with y4 _
        injection y4 with y5
        injection y5 with _ _ _ y6
        first
          | (have := List.append_cancel_right y6; cases v <;> cases w <;> simp_all)
          | simp_all
      · rw [h1] at h2
        injection h2 with y4 _
        injection y4 with y5
        simp_all
      · rw [h1] at h2
        injection h2 with y4 _
        injection y4 with y5
        simp_all
      · split at h2
        all_goals first
          | (rw [h1.1, h2.1]; done)
          | (exfalso; simp_all)
/-- what both say of one heap -/
def sameH (G : cx_T) (h1 h2 : ah_T) : Prop := ∃ t : State, hr_OK G h1 t.heap ∧ hr_OK G h2 t.heap
theorem con_conj {G : cx_T} {d mc ms : Nat} {M : mr_T} {As : List av_T} {h h2 : ah_T} {Q1 Q2 : Option av_T → ah_T → Prop} (H1 : con G d mc ms M As h Q1) (H2 : con G d mc ms M As h Q2) : con G d mc ms M As h (fun r h' => Q1 r h' ∧ ∃ r2 h2, Q2 r2 h2 ∧ r2.map (cv G) = r.map (cv G) ∧ sameH G h' h2) := by
  intro hn
  have K1 := H1 hn
  have K2 := H2 hn
  unfold Met MetFree at *
  intro p e hp hf hc s m args below hs ha hP hK
  obtain ⟨n, o, a1, a2, a3, ⟨⟨r, h', q1, q2, q3, q4, q5⟩, a5⟩, a6⟩ := K1 p e hp hf hc s m args below hs ha hP hK
  obtain ⟨n', o', b1, b2, b3, ⟨⟨r', h'', c1, c2, c3, c4, c5⟩, b5⟩, b6⟩ := K2 p e hp hf hc s m args below hs ha hP hK
  have en := ended_one a1 a3 b1 b3
  subst en
  have eo := ended_val a3 b3
  rw [q1, c1] at eo
  injection eo with eo
  exact ⟨n, o, a1, a2, a3, ⟨⟨r, h', q1, q2, ⟨q3, r', h'', c3, eo.symm, _, q4, c4⟩, q4, q5⟩, a5⟩, a6⟩
