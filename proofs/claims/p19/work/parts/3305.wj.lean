/-! ===== the walk's loop: what holds at its head ===== -/
def NG (q : ah_T) : Prop := (0 ≤ q.2.2.1 170 75 ∧ q.2.2.1 170 75 ≤ 1000000000) ∧ 1 ≤ q.2.2.1 170 76 ∧ q.2.2.1 170 76 ≤ 1000000
def WF (v ev ln : Int) (q : ah_T) : Prop := q.2.1 170 74 = 0 → NG q ∧ (∀ e : Nat, 300 * v ≤ (e : Int) → (e : Int) < 300 * v + ev → (e : Int) < 300 * v + 300 → EV q e ∧ q.2.1 196 e ≤ ln) ∧ ∀ i : Nat, 102 * v ≤ (i : Int) → (i : Int) ≤ 102 * v + ln → (i : Int) ≤ 102 * v + 100 → BV q i
/-- what lies before voice v's places -/
def LFr (v : Int) (h q : ah_T) : Prop := (∀ e : Nat, (e : Int) < 300 * v → (∀ a, a ∈ [187, 188, 189, 190] → q.2.2.1 a e = h.2.2.1 a e) ∧ q.2.1 196 e = h.2.1 196 e) ∧ (∀ i : Nat, (i : Int) < 102 * v → ∀ a, a ∈ [199, 200] → q.2.2.1 a i = h.2.2.1 a i) ∧ ∀ w : Nat, (w : Int) < v → q.2.1 185 w = h.2.1 185 w ∧ q.2.1 186 w = h.2.1 186 w
def VQ (h : ah_T) (stk : Nat → List Nat) : Prop := VS (h.2.1 201) (h.2.1 210) (h.2.1 211) (h.2.1 212) (h.2.1 213) (h.2.1 214) (h.2.1 202) (h.2.1 203) (h.2.1 170 43).toNat stk
def WQ (h : ah_T) (stk : Nat → List Nat) (k : Int) (q : ah_T) : Prop := WI (h.2.1 201) (h.2.1 214) (h.2.1 202) (h.2.1 203) stk (h.2.1 170 43).toNat k (q.2.1 170 70) (q.2.1 217) (q.2.1 218) (q.2.1 219) (q.2.2.1 170 77) (q.2.2.1 170 78)
def WB (h : ah_T) (stk : Nat → List Nat) (v k ev ln : Int) (q : ah_T) : Prop := WQ h stk k q ∧ WF v ev ln q ∧ LFr v h q
/-- the walk's own cells stand -/
def SQ (q q' : ah_T) : Prop := q'.2.1 170 70 = q.2.1 170 70 ∧ q'.2.1 217 = q.2.1 217 ∧ q'.2.1 218 = q.2.1 218 ∧ q'.2.1 219 = q.2.1 219 ∧ q'.2.2.1 170 77 = q.2.2.1 170 77 ∧ q'.2.2.1 170 78 = q.2.2.1 170 78
/-- what is told of events stands -/
def SF (q q' : ah_T) : Prop := q'.2.1 170 74 = q.2.1 170 74 ∧ q'.2.2.1 170 75 = q.2.2.1 170 75 ∧ q'.2.2.1 170 76 = q.2.2.1 170 76 ∧ (∀ a, a ∈ [187, 188, 189, 190, 199, 200] → q'.2.2.1 a = q.2.2.1 a) ∧ ∀ a, a ∈ [185, 186, 196] → q'.2.1 a = q.2.1 a
theorem WQ_m {h q q' : ah_T} {stk : Nat → List Nat} {k : Int} (H : WQ h stk k q) (s : SQ q q') : WQ h stk k q' := by
  obtain ⟨s1, s2, s3, s4, s5, s6⟩ := s
  unfold WQ at *
  rw [s1, s2, s3, s4, s5, s6]
  exact H
theorem NG_m {q q' : ah_T} (H : NG q) (e1 : q'.2.2.1 170 75 = q.2.2.1 170 75) (e2 : q'.2.2.1 170 76 = q.2.2.1 170 76) : NG q' := by
  unfold NG at *
  rw [e1, e2]
  exact H
theorem WF_m {v ev ln ev' ln' : Int} {q q' : ah_T} (H : WF v ev ln q) (s : SF q q') (he : ev' ≤ ev ∨ 300 ≤ ev) (hl : ln ≤ ln') (hl2 : ln' ≤ ln ∨ 100 ≤ ln) : WF v ev' ln' q' := by
  obtain ⟨s1, s2, s3, s4, s5⟩ := s
  intro h74
  rw [s1] at h74
  obtain ⟨g1, g2, g3⟩ := H h74
  refine ⟨NG_m g1 s2 s3, fun e e1 e2 e3 => ?_, fun i i1 i2 i3 => ?_⟩
  · obtain ⟨x1, x2⟩ := g2 e e1 (by omega) e3
    refine ⟨EV_s x1 (fun a ha => ?_), ?_⟩
    · rw [s4 a (by simp only [List.mem_cons, List.not_mem_nil, or_false] at ha ⊢; omega)]
    · rw [s5 196 (by decide)]; omega
  · refine BV_s (g3 i i1 (by omega) i3) (fun a ha => ?_)
    rw [s4 a (by simp only [List.mem_cons, List.not_mem_nil, or_false] at ha ⊢; omega)]
theorem LF_0 {v : Int} {h : ah_T} : LFr v h h := ⟨fun _ _ => ⟨fun _ _ => rfl, rfl⟩, fun _ _ _ _ => rfl, fun _ _ => ⟨rfl, rfl⟩⟩
theorem LF_t {v : Int} {h q q' : ah_T} (H : LFr v h q) (H' : LFr v q q') : LFr v h q' :=
  ⟨fun e he => ⟨fun a ha => ((H'.1 e he).1 a ha).trans ((H.1 e he).1 a ha), (H'.1 e he).2.trans (H.1 e he).2⟩, fun i hi a ha => (H'.2.1 i hi a ha).trans (H.2.1 i hi a ha), fun w hw => ⟨(H'.2.2 w hw).1.trans (H.2.2 w hw).1, (H'.2.2 w hw).2.trans (H.2.2 w hw).2⟩⟩
theorem LF_s {v : Int} {q q' : ah_T} (s : SF q q') : LFr v q q' := by
  obtain ⟨-, -, -, s4, s5⟩ := s
  refine ⟨fun e _ => ⟨fun a ha => ?_, by rw [s5 196 (by decide)]⟩, fun i _ a ha => ?_, fun w _ => ⟨by rw [s5 185 (by decide)], by rw [s5 186 (by decide)]⟩⟩
  · rw [s4 a (by simp only [List.mem_cons, List.not_mem_nil, or_false] at ha ⊢; omega)]
  · rw [s4 a (by simp only [List.mem_cons, List.not_mem_nil, or_false] at ha ⊢; omega)]
theorem WQ_k {h q : ah_T} {stk : Nat → List Nat} {k : Int} (H : WQ h stk k q) (h0 : 0 ≤ h.2.1 170 43) : 0 ≤ k ∧ k ≤ h.2.1 170 43 := by
  obtain ⟨h1, h2, -⟩ := H
  exact ⟨h1, by omega⟩
theorem WQ_b {h q : ah_T} {stk : Nat → List Nat} {k : Int} (hV : VQ h stk) (H : WQ h stk k q) : (0 ≤ q.2.1 170 70 ∧ q.2.1 170 70 ≤ 7) ∧ 1 ≤ q.2.2.1 170 77 ∧ q.2.2.1 170 77 ≤ 268435456 ∧ 1 ≤ q.2.2.1 170 78 ∧ q.2.2.1 170 78 ≤ 268435456 := by
  obtain ⟨g1, g2, g3, g4, g5, g6⟩ := WI_b hV H
  exact ⟨⟨g1, g2⟩, g3, g5, g4, g6⟩
theorem VQ_0 {h : ah_T} {stk : Nat → List Nat} {k : Nat} (hV : VQ h stk) (hk : (k : Int) < h.2.1 170 43) (hp : h.2.1 201 k = 0) : 1 ≤ h.2.1 202 k ∧ h.2.1 202 k ≤ 64 := by
  obtain ⟨-, -, -, -, v4, -⟩ := hV
  exact v4 k (by omega) hp
theorem VQ_5 {h : ah_T} {stk : Nat → List Nat} {k : Nat} (hV : VQ h stk) (hk : (k : Int) < h.2.1 170 43) (hp : h.2.1 201 k = 5) : (1 ≤ h.2.1 202 k ∧ h.2.1 202 k ≤ 16) ∧ 1 ≤ h.2.1 203 k ∧ h.2.1 203 k ≤ 16 := by
  obtain ⟨-, -, -, -, -, v5, -⟩ := hV
  exact v5 k (by omega) hp
section WJL
variable {h q q' q2 : ah_T} {stk : Nat → List Nat} {v k ev ln ev' ln' : Int}
/-- at the start -/
theorem WB_0 (hV : VQ h stk) (e70 : q.2.1 170 70 = 0) (e77 : q.2.2.1 170 77 = 1) (e78 : q.2.2.1 170 78 = 1) (e75 : q.2.2.1 170 75 = 0) (e76 : q.2.2.1 170 76 = 1) (v199 : q.2.2.1 199 (102 * v).toNat = 0) (v200 : q.2.2.1 200 (102 * v).toNat = 1) (hL : LFr v h q) (hv : 0 ≤ v) : WB h stk v 0 0 0 q := by
  refine ⟨?_, fun _ => ⟨?_, fun e e1 e2 _ => by omega, fun i i1 i2 _ => ?_⟩, hL⟩
  · unfold WQ; rw [e70, e77, e78]; exact WI_0 hV
  · unfold NG; rw [e75, e76]; decide
  · have ei : i = (102 * v).toNat := by omega
    unfold BV
    rw [ei, v199, v200]
    decide
/-- a sound that is too much, a line that is too much, or what lies behind an event -/
theorem WB_m (H : WB h stk v k ev ln q) (s : SQ q q') (f : SF q q') (he : ev' ≤ ev ∨ 300 ≤ ev) (hl : ln ≤ ln') (hl2 : ln' ≤ ln ∨ 100 ≤ ln) : WB h stk v k ev' ln' q' :=
  ⟨WQ_m H.1 s, WF_m H.2.1 f he hl hl2, LF_t H.2.2 (LF_s f)⟩
theorem WB_s (hV : VQ h stk) (H : WB h stk v k ev ln q) (hk : k < h.2.1 170 43) (hp : h.2.1 201 k.toNat = 0 ∨ h.2.1 201 k.toNat = 1) : WB h stk v (k + 1) ev ln q :=
  ⟨WI_s hV H.1 (by omega) hp, H.2⟩
/-- a line -/
theorem WB_l (hV : VQ h stk) (H : WB h stk v k ev ln q) (hk : k < h.2.1 170 43) (hp : h.2.1 201 k.toNat = 1) (s : SQ q q') {i0 : Nat} (hi : (i0 : Int) = 102 * v + ln + 1) (hl : 0 ≤ ln) (e74 : q'.2.1 170 74 = q.2.1 170 74) (e75 : q'.2.2.1 170 75 = q.2.2.1 170 75) (e76 : q'.2.2.1 170 76 = q.2.2.1 170 76)
    (f1 : ∀ a, a ∈ [187, 188, 189, 190] → q'.2.2.1 a = q.2.2.1 a) (f2 : ∀ a, a ∈ [185, 186, 196] → q'.2.1 a = q.2.1 a) (f199 : ∀ j, j ≠ i0 → q'.2.2.1 199 j = q.2.2.1 199 j) (f200 : ∀ j, j ≠ i0 → q'.2.2.1 200 j = q.2.2.1 200 j) (v199 : q'.2.2.1 199 i0 = q.2.2.1 170 75) (v200 : q'.2.2.1 200 i0 = q.2.2.1 170 76) : WB h stk v (k + 1) ev (ln + 1) q' := by
  refine ⟨WQ_m (WI_s hV H.1 (by omega) (Or.inr hp)) s, fun h74 => ?_, LF_t H.2.2 ⟨fun e _ => ⟨fun a ha => by rw [f1 a ha], by rw [f2 196 (by decide)]⟩, fun j hj a ha => ?_, fun w _ => ⟨by rw [f2 185 (by decide)], by rw [f2 186 (by decide)]⟩⟩⟩
  · rw [e74] at h74
    obtain ⟨g1, g2, g3⟩ := H.2.1 h74
    refine ⟨NG_m g1 e75 e76, fun e e1 e2 e3 => ?_, fun j j1 j2 j3 => ?_⟩
    · obtain ⟨x1, x2⟩ := g2 e e1 e2 e3
      exact ⟨EV_s x1 (fun a ha => by rw [f1 a ha]), by rw [f2 196 (by decide)]; omega⟩
    · by_cases hj : j = i0
      · subst hj
        unfold BV
        rw [v199, v200]
        exact ⟨g1.1.2, g1.2⟩
      · refine BV_s (g3 j j1 (by omega) j3) (fun a ha => ?_)
        simp only [List.mem_cons, List.not_mem_nil, or_false] at ha
        rcases ha with rfl | rfl
        · exact f199 j hj
        · exact f200 j hj
  · simp only [List.mem_cons, List.not_mem_nil, or_false] at ha
    rcases ha with rfl | rfl
    · exact f199 j (by omega)
    · exact f200 j (by omega)
/-- an event -/
theorem WB_e {P : Nat → Nat → Bool} (H : WB h stk v k ev ln q) (hv : 0 ≤ ev) (he : ev ≤ 299) {i0 : Nat} (hi : (i0 : Int) = 300 * v + ev) (kn : kM P q q')
    (x : (q'.2.1 170 74 = 0 → q.2.1 170 74 = 0 ∧ ((0 ≤ q'.2.2.1 170 75 ∧ q'.2.2.1 170 75 ≤ 1000000000) ∧ 1 ≤ q'.2.2.1 170 76 ∧ q'.2.2.1 170 76 ≤ 1000000) ∧ EV q' i0) ∧ (∀ j, j ≠ i0 → q'.2.2.1 187 j = q.2.2.1 187 j) ∧ (∀ j, j ≠ i0 → q'.2.2.1 188 j = q.2.2.1 188 j) ∧ (∀ j, j ≠ i0 → q'.2.2.1 189 j = q.2.2.1 189 j) ∧ (∀ j, j ≠ i0 → q'.2.2.1 190 j = q.2.2.1 190 j) ∧ (∀ j, j ≠ i0 → q'.2.1 196 j = q.2.1 196 j) ∧ q'.2.1 196 i0 = ln)
    (hP : P 170 70 = false ∧ P 170 77 = false ∧ P 170 78 = false ∧ (∀ j, P 217 j = false) ∧ (∀ j, P 218 j = false) ∧ (∀ j, P 219 j = false) ∧ (∀ j, P 199 j = false) ∧ (∀ j, P 200 j = false) ∧ (∀ j, P 185 j = false) ∧ ∀ j, P 186 j = false) : WB h stk v k (ev + 1) ln q' := by
  obtain ⟨x1, x2, x3, x4, x5, x6, x7⟩ := x
  obtain ⟨p1, p2, p3, p4, p5, p6, p7, p8, p9, p10⟩ := hP
  have fE : ∀ j, j ≠ i0 → ∀ a, a ∈ [187, 188, 189, 190] → q'.2.2.1 a j = q.2.2.1 a j := by
    intro j hj a ha
    simp only [List.mem_cons, List.not_mem_nil, or_false] at ha
    rcases ha with rfl | rfl | rfl | rfl
    · exact x2 j hj
    · exact x3 j hj
    · exact x4 j hj
    · exact x5 j hj
  have fB : ∀ j a, a ∈ [199, 200] → q'.2.2.1 a j = q.2.2.1 a j := by
    intro j a ha
    simp only [List.mem_cons, List.not_mem_nil, or_false] at ha
    rcases ha with rfl | rfl
    · exact kn.2.2.2 199 j (p7 j)
    · exact kn.2.2.2 200 j (p8 j)
  refine ⟨WQ_m H.1 ⟨kn.2.2.1 170 70 p1, funext fun j => kn.2.2.1 217 j (p4 j), funext fun j => kn.2.2.1 218 j (p5 j), funext fun j => kn.2.2.1 219 j (p6 j), kn.2.2.2 170 77 p2, kn.2.2.2 170 78 p3⟩, fun h74 => ?_, LF_t H.2.2 ⟨fun e e1 => ⟨fE e (by omega), x6 e (by omega)⟩, fun j _ => fB j, fun w _ => ⟨kn.2.2.1 185 w (p9 w), kn.2.2.1 186 w (p10 w)⟩⟩⟩
  obtain ⟨y1, y2, y3⟩ := x1 h74
  obtain ⟨g1, g2, g3⟩ := H.2.1 y1
  refine ⟨y2, fun e e1 e2 e3 => ?_, fun j j1 j2 j3 => BV_s (g3 j j1 j2 j3) (fB j)⟩
  by_cases hj : e = i0
  · subst hj
    exact ⟨y3, by omega⟩
  · obtain ⟨z1, z2⟩ := g2 e e1 (by omega) e3
    exact ⟨EV_s z1 (fE e hj), by rw [x6 e hj]; exact z2⟩
/-- an open [ -/
theorem WB_2 (hV : VQ h stk) (H : WB h stk v k ev ln q) (hk : k < h.2.1 170 43) (hp : h.2.1 201 k.toNat = 2) (f : SF q q') {d : Int} (ed : q.2.1 170 70 = d) (ed' : q'.2.1 170 70 = d + 1) (f217 : ∀ j, j ≠ d.toNat → q'.2.1 217 j = q.2.1 217 j) (f218 : ∀ j, j ≠ d.toNat → q'.2.1 218 j = q.2.1 218 j) (f219 : ∀ j, j ≠ d.toNat → q'.2.1 219 j = q.2.1 219 j)
    (e77 : q'.2.2.1 170 77 = q.2.2.1 170 77) (e78 : q'.2.2.1 170 78 = q.2.2.1 170 78) (v217 : q'.2.1 217 d.toNat = k) (v218 : q'.2.1 218 d.toNat = 1) (v219 : (h.2.1 214 k.toNat = 0 ∧ q'.2.1 219 d.toNat = 2) ∨ (h.2.1 214 k.toNat ≠ 0 ∧ q'.2.1 219 d.toNat = h.2.1 214 k.toNat)) : WB h stk v (k + 1) ev ln q' := by
  refine ⟨?_, WF_m H.2.1 f (Or.inl (by omega)) (by omega) (Or.inl (by omega)), LF_t H.2.2 (LF_s f)⟩
  have h1 := H.1
  unfold WQ at h1 ⊢
  rw [ed] at h1
  rw [ed', e77, e78]
  exact WI_2 hV h1 (by omega) hp (fun i hi => ⟨f217 i (by omega), f218 i (by omega), f219 i (by omega)⟩) v217 v218 v219
/-- an open proportion, and its end -/
theorem WB_5 (hV : VQ h stk) (H : WB h stk v k ev ln q) (hk : k < h.2.1 170 43) (hp : h.2.1 201 k.toNat = 5) (f : SF q q') (e70 : q'.2.1 170 70 = q.2.1 170 70) (f217 : q'.2.1 217 = q.2.1 217) (f218 : q'.2.1 218 = q.2.1 218) (f219 : q'.2.1 219 = q.2.1 219) {a b A B : Int} (hA : q.2.2.1 170 77 = A) (hB : q.2.2.1 170 78 = B) (ha : a = h.2.1 203 k.toNat) (hb : b = h.2.1 202 k.toNat)
    (x : (∃ d : Int, d ≠ 0 ∧ q'.2.2.1 170 77 * d = A * a ∧ q'.2.2.1 170 78 * d = B * b) ∧ 1 ≤ q'.2.2.1 170 77 ∧ 1 ≤ q'.2.2.1 170 78 ∧ Int.gcd (q'.2.2.1 170 77) (q'.2.2.1 170 78) = 1) : WB h stk v (k + 1) ev ln q' := by
  refine ⟨?_, WF_m H.2.1 f (Or.inl (by omega)) (by omega) (Or.inl (by omega)), LF_t H.2.2 (LF_s f)⟩
  obtain ⟨⟨d, d0, d1, d2⟩, x1, x2, x3⟩ := x
  have h1 := H.1
  unfold WQ at h1 ⊢
  rw [e70, f217, f218, f219]
  exact WI_5 hV h1 (by omega) hp x1 x2 (by rw [d1, ha, hA]) (by rw [d2, hb, hB]) d0 x3
theorem WB_6p (hV : VQ h stk) (H : WB h stk v k ev ln q) (hk : k < h.2.1 170 43) (hp : h.2.1 201 k.toNat = 6) : ∃ p : Nat, h.2.1 210 k.toNat = (p : Int) ∧ (p : Int) < h.2.1 170 43 ∧ h.2.1 201 p = 5 ∧ (1 ≤ h.2.1 202 p ∧ h.2.1 202 p ≤ 16) ∧ 1 ≤ h.2.1 203 p ∧ h.2.1 203 p ≤ 16 := by
  obtain ⟨p, p1, p2, p3⟩ := WI_6p hV H.1 (by omega) hp
  exact ⟨p, p1, by omega, p3⟩
theorem WB_6 (hV : VQ h stk) (H : WB h stk v k ev ln q) (hk : k < h.2.1 170 43) (hp : h.2.1 201 k.toNat = 6) (f : SF q q') (e70 : q'.2.1 170 70 = q.2.1 170 70) (f217 : q'.2.1 217 = q.2.1 217) (f218 : q'.2.1 218 = q.2.1 218) (f219 : q'.2.1 219 = q.2.1 219) {a b A B : Int} {p : Nat} (hm : h.2.1 210 k.toNat = (p : Int)) (hA : q.2.2.1 170 77 = A) (hB : q.2.2.1 170 78 = B) (ha : a = h.2.1 202 p) (hb : b = h.2.1 203 p)
    (x : (∃ d : Int, d ≠ 0 ∧ q'.2.2.1 170 77 * d = A * a ∧ q'.2.2.1 170 78 * d = B * b) ∧ 1 ≤ q'.2.2.1 170 77 ∧ 1 ≤ q'.2.2.1 170 78 ∧ Int.gcd (q'.2.2.1 170 77) (q'.2.2.1 170 78) = 1) : WB h stk v (k + 1) ev ln q' := by
  refine ⟨?_, WF_m H.2.1 f (Or.inl (by omega)) (by omega) (Or.inl (by omega)), LF_t H.2.2 (LF_s f)⟩
  obtain ⟨⟨d, d0, d1, d2⟩, x1, x2, x3⟩ := x
  have h1 := H.1
  unfold WQ at h1 ⊢
  rw [e70, f217, f218, f219]
  exact WI_6 hV h1 (by omega) hp hm x1 x2 (by rw [d1, ha, hA]) (by rw [d2, hb, hB]) d0 x3
/-- at a : or a ]: what is read -/
theorem WB_top (hV : VQ h stk) (hn : stk (h.2.1 170 43).toNat = []) (H : WB h stk v k ev ln q) (hk : k < h.2.1 170 43) (hp : h.2.1 201 k.toNat = 3 ∨ h.2.1 201 k.toNat = 4) {d : Int} (ed : q.2.1 170 70 = d) :
    ∃ p : Nat, 1 ≤ d ∧ q.2.1 217 (d - 1).toNat = (p : Int) ∧ (p : Int) < k ∧ 1 ≤ q.2.1 218 (d - 1).toNat ∧ q.2.1 218 (d - 1).toNat ≤ q.2.1 219 (d - 1).toNat ∧ (h.2.1 201 k.toNat = 3 → q.2.1 219 (d - 1).toNat = h.2.1 214 p ∧ ∀ j : Nat, (j : Int) < h.2.1 214 p → (col (h.2.1 211) (h.2.1 212) p j : Int) < h.2.1 170 43 ∧ col (h.2.1 211) (h.2.1 212) p 0 ≤ col (h.2.1 211) (h.2.1 212) p j) := by
  have h1 := H.1
  unfold WQ at h1
  rw [ed] at h1
  obtain ⟨p, a1, a2, a3, a4, a5, a6, -, -, a9⟩ := WI_top hV hn h1 (by omega) hp
  refine ⟨p, a1, a2, a3, a5, a6, fun h3 => ?_⟩
  obtain ⟨b1, b2, b3, -⟩ := a9 h3
  refine ⟨b2, fun j hj => ⟨by have := (b3.1 j hj).1; omega, ?_⟩⟩
  rcases Nat.eq_zero_or_pos j with h0 | h0
  · rw [h0]; exact Nat.le_refl _
  · exact Nat.le_of_lt (col_lt b3 j hj 0 h0)
/-- to an ending -/
theorem WB_3 (hV : VQ h stk) (hn : stk (h.2.1 170 43).toNat = []) (H : WB h stk v k ev ln q) (hk : k < h.2.1 170 43) (hp : h.2.1 201 k.toNat = 3) (s : SQ q q') (f : SF q q') {d p t z : Int} (ed : q.2.1 170 70 = d) (ep : q.2.1 217 (d - 1).toNat = p) (et : q.2.1 218 (d - 1).toNat = t) (hz : z = (col (h.2.1 211) (h.2.1 212) p.toNat (t - 1).toNat : Int) + 1) : WB h stk v z ev ln q' := by
  refine ⟨WQ_m ?_ s, WF_m H.2.1 f (Or.inl (by omega)) (by omega) (Or.inl (by omega)), LF_t H.2.2 (LF_s f)⟩
  have h1 := H.1
  unfold WQ at h1 ⊢
  rw [ed] at h1 ⊢
  obtain ⟨p', a1, a2, a3, a4, a5, a6, -, -, a9⟩ := WI_top hV hn h1 (by omega) (Or.inl hp)
  obtain ⟨b1, b2, b3, b4⟩ := a9 hp
  have ep' : p.toNat = p' := by omega
  rw [hz, ep']
  exact b4 _ (by omega)
/-- turned -/
theorem WB_t (hV : VQ h stk) (hn : stk (h.2.1 170 43).toNat = []) (H : WB h stk v k ev ln q) (hk : k < h.2.1 170 43) (hp : h.2.1 201 k.toNat = 3 ∨ h.2.1 201 k.toNat = 4) (f : SF q q') {d p c z : Int} (ed : q.2.1 170 70 = d) (ep : q.2.1 217 (d - 1).toNat = p) (f217 : q'.2.1 217 = q.2.1 217) (f219 : q'.2.1 219 = q.2.1 219) (e77 : q'.2.2.1 170 77 = q.2.2.1 170 77) (e78 : q'.2.2.1 170 78 = q.2.2.1 170 78)
    (x : (q.2.1 218 (d - 1).toNat < q.2.1 219 (d - 1).toNat ∧ z = p + 1 ∧ q'.2.1 170 70 = d ∧ q'.2.1 170 71 = c + 1 ∧ q'.2.1 218 (d - 1).toNat = q.2.1 218 (d - 1).toNat + 1 ∧ ∀ k, k ≠ (d - 1).toNat → q'.2.1 218 k = q.2.1 218 k) ∨ (q.2.1 219 (d - 1).toNat ≤ q.2.1 218 (d - 1).toNat ∧ z = h.2.1 210 p.toNat + 1 ∧ q'.2.1 170 70 = d - 1 ∧ q'.2.1 170 71 = c ∧ ∀ k, q'.2.1 218 k = q.2.1 218 k)) : WB h stk v z ev ln q' ∧ (q'.2.1 170 71 = c + 1 ∨ (q'.2.1 170 71 = c ∧ k + 1 ≤ z)) := by
  have h1 := H.1
  unfold WQ at h1
  rw [ed] at h1
  obtain ⟨p', a1, a2, a3, a4, a5, a6, ⟨cl, c1, c2, c3, c4⟩, a8, -⟩ := WI_top hV hn h1 (by omega) hp
  have epp : p.toNat = p' := by omega
  rcases x with ⟨x1, x2, x3, x4, x5, x6⟩ | ⟨x1, x2, x3, x4, x5⟩
  · refine ⟨⟨?_, WF_m H.2.1 f (Or.inl (by omega)) (by omega) (Or.inl (by omega)), LF_t H.2.2 (LF_s f)⟩, Or.inl x4⟩
    have hz : z = (p' : Int) + 1 := by omega
    unfold WQ
    rw [x3, f217, f219, e77, e78, hz]
    exact a8 _ _ _ (fun i hi => ⟨rfl, x6 i (by omega), rfl⟩) a2 rfl (by omega) (by omega)
  · have hz : z = (cl : Int) + 1 := by rw [x2, epp, c1]
    refine ⟨⟨?_, WF_m H.2.1 f (Or.inl (by omega)) (by omega) (Or.inl (by omega)), LF_t H.2.2 (LF_s f)⟩, Or.inr ⟨x4, by omega⟩⟩
    unfold WQ
    rw [x3, f217, f219, e77, e78, hz]
    exact c4 _ _ _ (fun i _ => ⟨rfl, x5 i, rfl⟩)
/-- what the walk leaves -/
theorem WB_z (H : WB h stk v k ev ln q) {w : Nat} (hw : (w : Int) = v) (h74 : q.2.1 170 74 = 0) (he : ev ≤ 300) (hl : 0 ≤ ln) (hl2 : ln ≤ 100) {i0 : Nat} (hi : (i0 : Int) = 102 * v + ln + 1) (v185 : q'.2.1 185 w = ev) (v186 : q'.2.1 186 w = ln + 1) (f185 : ∀ j, j ≠ w → q'.2.1 185 j = q.2.1 185 j) (f186 : ∀ j, j ≠ w → q'.2.1 186 j = q.2.1 186 j)
    (f1 : ∀ a, a ∈ [187, 188, 189, 190] → q'.2.2.1 a = q.2.2.1 a) (f2 : q'.2.1 196 = q.2.1 196) (f199 : ∀ j, j ≠ i0 → q'.2.2.1 199 j = q.2.2.1 199 j) (f200 : ∀ j, j ≠ i0 → q'.2.2.1 200 j = q.2.2.1 200 j) (v199 : q'.2.2.1 199 i0 = q.2.2.1 170 75) (v200 : q'.2.2.1 200 i0 = q.2.2.1 170 76) : GB q' w ∧ GO q' w ∧ LFr v h q' := by
  obtain ⟨g1, g2, g3⟩ := H.2.1 h74
  refine ⟨⟨fun e e1 e2 => ?_, fun i i1 i2 => ?_⟩, fun e e1 e2 => ?_, LF_t H.2.2 ⟨fun e _ => ⟨fun a ha => by rw [f1 a ha], by rw [f2]⟩, fun j hj a ha => ?_, fun j hj => ⟨f185 j (by omega), f186 j (by omega)⟩⟩⟩
  · rw [v185] at e2
    exact EV_s (g2 e (by omega) (by omega) (by omega)).1 (fun a ha => by rw [f1 a ha])
  · rw [v186] at i2
    by_cases hj : i = i0
    · subst hj
      unfold BV
      rw [v199, v200]
      exact ⟨g1.1.2, g1.2⟩
    · refine BV_s (g3 i (by omega) (by omega) (by omega)) (fun a ha => ?_)
      simp only [List.mem_cons, List.not_mem_nil, or_false] at ha
      rcases ha with rfl | rfl
      · exact f199 i hj
      · exact f200 i hj
  · rw [v185] at e2
    rw [v186, f2]
    have := (g2 e (by omega) (by omega) (by omega)).2
    omega
  · simp only [List.mem_cons, List.not_mem_nil, or_false] at ha
    rcases ha with rfl | rfl
    · exact f199 j (by omega)
    · exact f200 j (by omega)
end WJL
/-- the voices before v stand -/
theorem GB_f {v : Int} {h q : ah_T} {w : Nat} (H : GB h w) (hL : LFr v h q) (hw : (w : Int) < v) (h185 : h.2.1 185 w ≤ 300) (h186 : h.2.1 186 w ≤ 101) : GB q w := by
  obtain ⟨l1, l2, l3⟩ := hL
  obtain ⟨y1, y2⟩ := l3 w hw
  refine ⟨fun e e1 e2 => ?_, fun i i1 i2 => ?_⟩
  · rw [y1] at e2
    exact EV_s (H.1 e e1 e2) (l1 e (by omega)).1
  · rw [y2] at i2
    exact BV_s (H.2 i i1 i2) (l2 i (by omega))
theorem GO_f {v : Int} {h q : ah_T} {w : Nat} (H : GO h w) (hL : LFr v h q) (hw : (w : Int) < v) (h185 : h.2.1 185 w ≤ 300) : GO q w := by
  obtain ⟨l1, l2, l3⟩ := hL
  obtain ⟨y1, y2⟩ := l3 w hw
  intro e e1 e2
  rw [y1] at e2
  rw [y2, (l1 e (by omega)).2]
  exact H e e1 e2
