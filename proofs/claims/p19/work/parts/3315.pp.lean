/-! ===== what a parse leaves of what is kept ===== -/
def SA (q q' : ah_T) : Prop := (∀ a, a ∈ [187, 188, 189, 190, 199, 200] → q'.2.2.1 a = q.2.2.1 a) ∧ ∀ a, a ∈ [185, 186, 196] → q'.2.1 a = q.2.1 a
theorem LF_a {v : Int} {q q' : ah_T} (s : SA q q') : LFr v q q' := by
  obtain ⟨s4, s5⟩ := s
  refine ⟨fun e _ => ⟨fun a ha => ?_, by rw [s5 196 (by decide)]⟩, fun i _ a ha => ?_, fun w _ => ⟨by rw [s5 185 (by decide)], by rw [s5 186 (by decide)]⟩⟩
  · rw [s4 a (by simp only [List.mem_cons, List.not_mem_nil, or_false] at ha ⊢; omega)]
  · rw [s4 a (by simp only [List.mem_cons, List.not_mem_nil, or_false] at ha ⊢; omega)]
theorem LF_le {v v' : Int} {h q : ah_T} (H : LFr v h q) (hv : v' ≤ v) : LFr v' h q := ⟨fun e he => H.1 e (by omega), fun i hi => H.2.1 i (by omega), fun w hw => H.2.2 w (by omega)⟩
def SAP (P : Nat → Nat → Bool) : Prop := ∀ j, (P 187 j = false ∧ P 188 j = false ∧ P 189 j = false ∧ P 190 j = false ∧ P 199 j = false ∧ P 200 j = false) ∧ P 185 j = false ∧ P 186 j = false ∧ P 196 j = false
theorem SA_k {P : Nat → Nat → Bool} {q q' : ah_T} (kn : kM P q q') (hP : SAP P) : SA q q' := by
  refine ⟨fun a ha => ?_, fun a ha => ?_⟩
  · simp only [List.mem_cons, List.not_mem_nil, or_false] at ha
    rcases ha with rfl | rfl | rfl | rfl | rfl | rfl
    · exact funext fun j => kn.2.2.2 _ j (hP j).1.1
    · exact funext fun j => kn.2.2.2 _ j (hP j).1.2.1
    · exact funext fun j => kn.2.2.2 _ j (hP j).1.2.2.1
    · exact funext fun j => kn.2.2.2 _ j (hP j).1.2.2.2.1
    · exact funext fun j => kn.2.2.2 _ j (hP j).1.2.2.2.2.1
    · exact funext fun j => kn.2.2.2 _ j (hP j).1.2.2.2.2.2
  · simp only [List.mem_cons, List.not_mem_nil, or_false] at ha
    rcases ha with rfl | rfl | rfl
    · exact funext fun j => kn.2.2.1 _ j (hP j).2.1
    · exact funext fun j => kn.2.2.1 _ j (hP j).2.2.1
    · exact funext fun j => kn.2.2.1 _ j (hP j).2.2.2
theorem mi_185 {h : ah_T} (hx : mi h) (w : Nat) : 0 ≤ h.2.1 185 w ∧ h.2.1 185 w ≤ 300 := mi_g hx (by decide) (rfl : mr 185 w = (0, 300))
theorem mi_186 {h : ah_T} (hx : mi h) (w : Nat) : 0 ≤ h.2.1 186 w ∧ h.2.1 186 w ≤ 101 := mi_g hx (by decide) (rfl : mr 186 w = (0, 101))
theorem GG_f {v : Int} {h q : ah_T} {w : Nat} (hx : mi h) (H : GB h w ∧ GO h w) (hL : LFr v h q) (hw : (w : Int) < v) : GB q w ∧ GO q w :=
  ⟨GB_f H.1 hL hw (mi_185 hx w).2 (mi_186 hx w).2, GO_f H.2 hL hw (mi_185 hx w).2⟩
/-- rules and row, as they are kept -/
def RK (h q : ah_T) : Prop := q.2.1 172 0 = h.2.1 172 0 ∧ (∀ k : Nat, k < 24 → q.2.1 178 k = h.2.1 178 k ∧ q.2.1 179 k = h.2.1 179 k ∧ q.2.1 180 k = h.2.1 180 k) ∧ q.2.1 177 0 = h.2.1 177 0 ∧ (∀ k : Nat, k < 12 → q.2.1 182 k = h.2.1 182 k) ∧ q.2.1 181 0 = h.2.1 181 0
def PP (h q : ah_T) : Prop := LFr 4 h q ∧ RK h q
/-- rules of the parse that have names -/
def RN (q : ah_T) : Prop := ∀ r : Nat, (r : Int) < q.2.1 177 1 → 0 ≤ q.2.1 178 (24 + r) ∧ 0 ≤ q.2.1 179 (24 + r)
def PV (q : ah_T) : Prop := (∀ w : Nat, 4 ≤ (w : Int) → (w : Int) < 4 + q.2.1 172 1 → GB q w ∧ GO q w) ∧ RN q
theorem RK_0 {h : ah_T} : RK h h := ⟨rfl, fun _ _ => ⟨rfl, rfl, rfl⟩, rfl, fun _ _ => rfl, rfl⟩
theorem RK_t {h q q' : ah_T} (H : RK h q) (H' : RK q q') : RK h q' := by
  obtain ⟨a1, a2, a3, a4, a5⟩ := H
  obtain ⟨b1, b2, b3, b4, b5⟩ := H'
  exact ⟨b1.trans a1, fun k hk => ⟨(b2 k hk).1.trans (a2 k hk).1, (b2 k hk).2.1.trans (a2 k hk).2.1, (b2 k hk).2.2.trans (a2 k hk).2.2⟩, b3.trans a3, fun k hk => (b4 k hk).trans (a4 k hk), b5.trans a5⟩
theorem PP_0 {h : ah_T} : PP h h := ⟨LF_0, RK_0⟩
theorem PP_t {h q q' : ah_T} (H : PP h q) (H' : PP q q') : PP h q' := ⟨LF_t H.1 H'.1, RK_t H.2 H'.2⟩
theorem RN_e {q q' : ah_T} (H : RN q) (e1 : q'.2.1 177 1 = q.2.1 177 1) (e2 : ∀ k, q'.2.1 178 k = q.2.1 178 k) (e3 : ∀ k, q'.2.1 179 k = q.2.1 179 k) : RN q' := by
  intro r hr
  rw [e1] at hr
  rw [e2, e3]
  exact H r hr
theorem PV_a {q q' : ah_T} (hx : mi q) (H : ∀ w : Nat, 4 ≤ (w : Int) → (w : Int) < 4 + q.2.1 172 1 → GB q w ∧ GO q w) (s : SA q q') (e : q'.2.1 172 1 = q.2.1 172 1) : ∀ w : Nat, 4 ≤ (w : Int) → (w : Int) < 4 + q'.2.1 172 1 → GB q' w ∧ GO q' w := by
  intro w h1 h2
  rw [e] at h2
  exact GG_f (v := (w : Int) + 1) hx (H w h1 h2) (LF_a s) (by omega)
/-- a part of the score that has nothing of that -/
theorem PI_k {P : Nat → Nat → Bool} {h q q' : ah_T} (hx : mi q) (H : PP h q) (Hv : PV q) (kn : kM P q q') (hP : SAP P) (hQ : ∀ a, a ∈ [172, 177, 178, 179, 180, 181, 182] → ∀ j, P a j = false) : PP h q' ∧ PV q' := by
  have s := SA_k kn hP
  have f : ∀ a, a ∈ [172, 177, 178, 179, 180, 181, 182] → ∀ j, q'.2.1 a j = q.2.1 a j := fun a ha j => kn.2.2.1 a j (hQ a ha j)
  refine ⟨PP_t H ⟨LF_a s, f 172 (by decide) 0, fun k _ => ⟨f 178 (by decide) k, f 179 (by decide) k, f 180 (by decide) k⟩, f 177 (by decide) 0, fun k _ => f 182 (by decide) k, f 181 (by decide) 0⟩, PV_a hx Hv.1 s (f 172 (by decide) 1), RN_e Hv.2 (f 177 (by decide) 1) (f 178 (by decide)) (f 179 (by decide))⟩
theorem PI_row {P : Nat → Nat → Bool} {h q q' : ah_T} (hx : mi q) (H : PP h q) (Hv : PV q) (kn : kM P q q') (hP : SAP P) (hQ : ∀ a, a ∈ [172, 177, 178, 179, 180] → ∀ j, P a j = false) (x1 : ∀ k : Nat, k < 12 → q'.2.1 182 k = q.2.1 182 k) (x2 : q'.2.1 181 0 = q.2.1 181 0) : PP h q' ∧ PV q' := by
  have s := SA_k kn hP
  have f : ∀ a, a ∈ [172, 177, 178, 179, 180] → ∀ j, q'.2.1 a j = q.2.1 a j := fun a ha j => kn.2.2.1 a j (hQ a ha j)
  refine ⟨PP_t H ⟨LF_a s, f 172 (by decide) 0, fun k _ => ⟨f 178 (by decide) k, f 179 (by decide) k, f 180 (by decide) k⟩, f 177 (by decide) 0, x1, x2⟩, PV_a hx Hv.1 s (f 172 (by decide) 1), RN_e Hv.2 (f 177 (by decide) 1) (f 178 (by decide)) (f 179 (by decide))⟩
theorem PI_rule {P : Nat → Nat → Bool} {h q q' : ah_T} {z : Int} (hx : mi q) (H : PP h q) (Hv : PV q) (kn : kM P q q') (hP : SAP P) (hQ : ∀ a, a ∈ [172, 181, 182] → ∀ j, P a j = false)
    (x : (∀ k : Nat, k ≠ (24 + q.2.1 177 1).toNat → q'.2.1 178 k = q.2.1 178 k ∧ q'.2.1 179 k = q.2.1 179 k ∧ q'.2.1 180 k = q.2.1 180 k) ∧ q'.2.1 177 0 = q.2.1 177 0 ∧ (z = 1 → q'.2.1 177 1 = q.2.1 177 1 + 1 ∧ 0 ≤ q'.2.1 178 (24 + q.2.1 177 1).toNat ∧ 0 ≤ q'.2.1 179 (24 + q.2.1 177 1).toNat)) : PP h q' ∧ (z = 1 → PV q') := by
  have s := SA_k kn hP
  have f : ∀ a, a ∈ [172, 181, 182] → ∀ j, q'.2.1 a j = q.2.1 a j := fun a ha j => kn.2.2.1 a j (hQ a ha j)
  have hr : 0 ≤ q.2.1 177 1 := (mi_g hx (by decide) (rfl : mr 177 1 = (0, 24))).1
  obtain ⟨x1, x2, x3⟩ := x
  refine ⟨PP_t H ⟨LF_a s, f 172 (by decide) 0, fun k hk => x1 k (by omega), x2, fun k _ => f 182 (by decide) k, f 181 (by decide) 0⟩, fun hz => ⟨PV_a hx Hv.1 s (f 172 (by decide) 1), fun r h1 => ?_⟩⟩
  obtain ⟨y1, y2, y3⟩ := x3 hz
  rw [y1] at h1
  by_cases he : (r : Int) = q.2.1 177 1
  · have e : (24 + q.2.1 177 1).toNat = 24 + r := by omega
    rw [e] at y2 y3
    exact ⟨y2, y3⟩
  · obtain ⟨g1, g2⟩ := Hv.2 r (by omega)
    obtain ⟨k1, k2, -⟩ := x1 (24 + r) (by omega)
    rw [k1, k2]
    exact ⟨g1, g2⟩
theorem PI_voice {P : Nat → Nat → Bool} {h q q' : ah_T} {z : Int} {R : Prop} (hx : mi q) (H : PP h q) (Hv : PV q) (kn : kM P q q') (hQ : ∀ a, a ∈ [177, 178, 179, 180, 181, 182] → ∀ j, P a j = false)
    (x : ∀ v : Int, v = 4 + q.2.1 172 1 → LFr v q q' ∧ q'.2.1 172 0 = q.2.1 172 0 ∧ (z = 1 → R ∧ q'.2.1 172 1 = q.2.1 172 1 + 1 ∧ GB q' v.toNat ∧ GO q' v.toNat)) : PP h q' ∧ (z = 1 → PV q') := by
  have f : ∀ a, a ∈ [177, 178, 179, 180, 181, 182] → ∀ j, q'.2.1 a j = q.2.1 a j := fun a ha j => kn.2.2.1 a j (hQ a ha j)
  have hr : 0 ≤ q.2.1 172 1 := (mi_g hx (by decide) (rfl : mr 172 1 = (0, 4))).1
  obtain ⟨x1, x2, x3⟩ := x _ rfl
  refine ⟨PP_t H ⟨LF_le x1 (by omega), x2, fun k _ => ⟨f 178 (by decide) k, f 179 (by decide) k, f 180 (by decide) k⟩, f 177 (by decide) 0, fun k _ => f 182 (by decide) k, f 181 (by decide) 0⟩, fun hz => ⟨fun w h1 h2 => ?_, RN_e Hv.2 (f 177 (by decide) 1) (f 178 (by decide)) (f 179 (by decide))⟩⟩
  obtain ⟨-, y1, y2, y3⟩ := x3 hz
  rw [y1] at h2
  by_cases he : (w : Int) = 4 + q.2.1 172 1
  · have e : (4 + q.2.1 172 1).toNat = w := by omega
    rw [e] at y2 y3
    exact ⟨y2, y3⟩
  · exact GG_f hx (Hv.1 w h1 (by omega)) x1 (by omega)
/-! ===== keep: the voices above are laid below ===== -/
def UP (h q : ah_T) : Prop := (∀ e : Nat, 1200 ≤ e → (∀ a, a ∈ [187, 188, 189, 190] → q.2.2.1 a e = h.2.2.1 a e) ∧ q.2.1 196 e = h.2.1 196 e) ∧ (∀ i : Nat, 408 ≤ i → ∀ a, a ∈ [199, 200] → q.2.2.1 a i = h.2.2.1 a i) ∧ ∀ w : Nat, 4 ≤ w → q.2.1 185 w = h.2.1 185 w ∧ q.2.1 186 w = h.2.1 186 w
def CB (h q : ah_T) (v k : Int) : Prop := ∀ j : Nat, (j : Int) < k → q.2.2.1 199 (102 * v + j).toNat = h.2.2.1 199 (102 * (v + 4) + j).toNat ∧ q.2.2.1 200 (102 * v + j).toNat = h.2.2.1 200 (102 * (v + 4) + j).toNat
def CE (h q : ah_T) (v i : Int) : Prop := ∀ j : Nat, (j : Int) < i → (∀ a, a ∈ [187, 188, 189, 190] → q.2.2.1 a (300 * v + j).toNat = h.2.2.1 a (300 * (v + 4) + j).toNat) ∧ q.2.1 196 (300 * v + j).toNat = h.2.1 196 (300 * (v + 4) + j).toNat
theorem UP_0 {h : ah_T} : UP h h := ⟨fun _ _ => ⟨fun _ _ => rfl, rfl⟩, fun _ _ _ _ => rfl, fun _ _ => ⟨rfl, rfl⟩⟩
theorem KE_z {h q : ah_T} {v : Int} (hv : 0 ≤ v) (H : ∀ w : Nat, (w : Int) = v + 4 → GB h w ∧ GO h w) (hx : mi h) (e185 : q.2.1 185 v.toNat = h.2.1 185 (v + 4).toNat) (e186 : q.2.1 186 v.toNat = h.2.1 186 (v + 4).toNat) (hb : CB h q v 102) (he : CE h q v (h.2.1 185 (v + 4).toNat)) : GB q v.toNat ∧ GO q v.toNat := by
  obtain ⟨⟨g1, g2⟩, g3⟩ := H (v + 4).toNat (by omega)
  have r1 := mi_185 hx (v + 4).toNat
  have r2 := mi_186 hx (v + 4).toNat
  have ev : ∀ e : Nat, 300 * v.toNat ≤ e → (e : Int) < 300 * v.toNat + q.2.1 185 v.toNat → ∃ e' : Nat, 300 * (v + 4).toNat ≤ e' ∧ (e' : Int) < 300 * (v + 4).toNat + h.2.1 185 (v + 4).toNat ∧ (∀ a, a ∈ [187, 188, 189, 190] → q.2.2.1 a e = h.2.2.1 a e') ∧ q.2.1 196 e = h.2.1 196 e' := by
    intro e h1 h2
    rw [e185] at h2
    obtain ⟨c1, c2⟩ := he (e - 300 * v.toNat) (by omega)
    have i1 : (300 * v + ((e - 300 * v.toNat : Nat) : Int)).toNat = e := by omega
    have i2 : (300 * (v + 4) + ((e - 300 * v.toNat : Nat) : Int)).toNat = e + 1200 := by omega
    rw [i1, i2] at c1
    rw [i1, i2] at c2
    exact ⟨e + 1200, by omega, by omega, c1, c2⟩
  refine ⟨⟨fun e h1 h2 => ?_, fun i h1 h2 => ?_⟩, fun e h1 h2 => ?_⟩
  · obtain ⟨e', y1, y2, y3, -⟩ := ev e h1 h2
    have g := g1 e' y1 y2
    unfold EV at g ⊢
    rw [y3 187 (by decide), y3 188 (by decide), y3 189 (by decide), y3 190 (by decide)]
    exact g
  · rw [e186] at h2
    obtain ⟨c1, c2⟩ := hb (i - 102 * v.toNat) (by omega)
    have i1 : (102 * v + ((i - 102 * v.toNat : Nat) : Int)).toNat = i := by omega
    have i2 : (102 * (v + 4) + ((i - 102 * v.toNat : Nat) : Int)).toNat = i + 408 := by omega
    rw [i1, i2] at c1 c2
    have g := g2 (i + 408) (by omega) (by omega)
    unfold BV at g ⊢
    rw [c1, c2]
    exact g
  · obtain ⟨e', y1, y2, -, y4⟩ := ev e h1 h2
    rw [y4, e186]
    exact g3 e' y1 y2
/-- rules kept are rules with names -/
def RL (h : ah_T) : Prop := ∀ r : Nat, (r : Int) < h.2.1 177 0 → 0 ≤ h.2.1 178 r ∧ 0 ≤ h.2.1 179 r
theorem KO_of {h : ah_T} (H : ∀ w : Nat, (w : Int) < h.2.1 172 0 → GB h w ∧ GO h w) : KS h ∧ KO h := ⟨fun w hw => (H w hw).1, fun w hw => (H w hw).2⟩
theorem PP_K {h q : ah_T} (hx : mi h) (H : PP h q) (h1 : KS h) (h2 : KO h) (h3 : RL h) : KS q ∧ KO q ∧ RL q := by
  have hr : h.2.1 172 0 ≤ 4 := (mi_g hx (by decide) (rfl : mr 172 0 = (0, 4))).2
  have hr2 : h.2.1 177 0 ≤ 24 := (mi_g hx (by decide) (rfl : mr 177 0 = (0, 24))).2
  obtain ⟨H1, H2, H3, H4, -⟩ := H
  refine ⟨fun w hw => ?_, fun w hw => ?_, fun r hr => ?_⟩
  · rw [H2] at hw
    exact (GG_f hx ⟨h1 w hw, h2 w hw⟩ H1 (by omega)).1
  · rw [H2] at hw
    exact (GG_f hx ⟨h1 w hw, h2 w hw⟩ H1 (by omega)).2
  · rw [H4] at hr
    obtain ⟨y1, y2, -⟩ := H3 r (by omega)
    rw [y1, y2]
    exact h3 r hr
/-- keep's loops -/
def KJ (h q : ah_T) (v : Int) : Prop := q.2.1 172 0 = h.2.1 172 1 ∧ UP h q ∧ (∀ w : Nat, (w : Int) < v → GB q w ∧ GO q w) ∧ RL q
def KC (h q : ah_T) (v : Int) : Prop := q.2.1 185 v.toNat = h.2.1 185 (v + 4).toNat ∧ q.2.1 186 v.toNat = h.2.1 186 (v + 4).toNat
theorem UP_t {h q q' : ah_T} (H : UP h q) (H' : UP q q') : UP h q' :=
  ⟨fun e he => ⟨fun a ha => ((H'.1 e he).1 a ha).trans ((H.1 e he).1 a ha), (H'.1 e he).2.trans (H.1 e he).2⟩, fun i hi a ha => (H'.2.1 i hi a ha).trans (H.2.1 i hi a ha), fun w hw => ⟨(H'.2.2 w hw).1.trans (H.2.2 w hw).1, (H'.2.2 w hw).2.trans (H.2.2 w hw).2⟩⟩
theorem UP_a {q q' : ah_T} (s : SA q q') : UP q q' := by
  obtain ⟨s4, s5⟩ := s
  refine ⟨fun e _ => ⟨fun a ha => ?_, by rw [s5 196 (by decide)]⟩, fun i _ a ha => ?_, fun w _ => ⟨by rw [s5 185 (by decide)], by rw [s5 186 (by decide)]⟩⟩
  · rw [s4 a (by simp only [List.mem_cons, List.not_mem_nil, or_false] at ha ⊢; omega)]
  · rw [s4 a (by simp only [List.mem_cons, List.not_mem_nil, or_false] at ha ⊢; omega)]
theorem RL_e {q q' : ah_T} (H : RL q) (e1 : q'.2.1 177 0 = q.2.1 177 0) (e2 : ∀ k, q'.2.1 178 k = q.2.1 178 k) (e3 : ∀ k, q'.2.1 179 k = q.2.1 179 k) : RL q' := by
  intro r hr
  rw [e1] at hr
  rw [e2, e3]
  exact H r hr
/-- copying: what lies from o on is laid from 0 on -/
def CP (f0 : Nat → Int) (o : Nat) (g : Nat → Int) (k : Int) : Prop := (∀ r : Nat, (r : Int) < k → g r = f0 (o + r)) ∧ ∀ r : Nat, o ≤ r → g r = f0 r
theorem CP_0 {f0 g : Nat → Int} {o : Nat} (h : ∀ k, g k = f0 k) : CP f0 o g 0 := ⟨fun r hr => by omega, fun r _ => h r⟩
theorem CP_s {f0 g g' : Nat → Int} {o i0 j0 : Nat} {k x : Int} (H : CP f0 o g k) (hk : 0 ≤ k) (hi : (i0 : Int) = k) (ho : k < o) (hj : (j0 : Int) = k + o) (f : ∀ j, j ≠ i0 → g' j = g j) (e : g' i0 = x) (ex : x = g j0) : CP f0 o g' (k + 1) := by
  refine ⟨fun r hr => ?_, fun r hr => ?_⟩
  · by_cases he : r = i0
    · subst he
      rw [e, ex, H.2 j0 (by omega)]
      congr 1
      omega
    · rw [f r he]; exact H.1 r (by omega)
  · rw [f r (by omega)]; exact H.2 r hr
theorem RL_cp {h q : ah_T} (hr : RN h) (e : q.2.1 177 0 = h.2.1 177 1) (h1 : CP (h.2.1 178) 24 (q.2.1 178) 24) (h2 : CP (h.2.1 179) 24 (q.2.1 179) 24) (hx : h.2.1 177 1 ≤ 24) : RL q := by
  intro r h0
  rw [e] at h0
  rw [h1.1 r (by omega), h2.1 r (by omega)]
  exact hr r h0
theorem KJ_a {h q q' : ah_T} {v : Int} (hx : mi q) (H : KJ h q v) (s : SA q q') (e1 : q'.2.1 172 0 = q.2.1 172 0) (e2 : q'.2.1 177 0 = q.2.1 177 0) (e3 : ∀ k, q'.2.1 178 k = q.2.1 178 k) (e4 : ∀ k, q'.2.1 179 k = q.2.1 179 k) : KJ h q' v :=
  ⟨e1.trans H.1, UP_t H.2.1 (UP_a s), fun w hw => GG_f hx (H.2.2.1 w hw) (LF_a s) hw, RL_e H.2.2.2 e2 e3 e4⟩
/-- a change at voice v's own places -/
theorem KJ_v {h q q' : ah_T} {v : Int} (hx : mi q) (H : KJ h q v) (hv : v ≤ 3) (hL : LFr v q q') (hU : UP q q') (e1 : q'.2.1 172 0 = q.2.1 172 0) (e2 : q'.2.1 177 0 = q.2.1 177 0) (e3 : ∀ k, q'.2.1 178 k = q.2.1 178 k) (e4 : ∀ k, q'.2.1 179 k = q.2.1 179 k) : KJ h q' v :=
  ⟨e1.trans H.1, UP_t H.2.1 hU, fun w hw => GG_f hx (H.2.2.1 w hw) hL hw, RL_e H.2.2.2 e2 e3 e4⟩
/-- only two of the long arrays, or only events, or only counts -/
theorem LU_c {q q' : ah_T} {v : Int} {i0 : Nat} (hi : (i0 : Int) = v) (hv : v ≤ 3) (f1 : ∀ a, a ∈ [187, 188, 189, 190, 199, 200] → q'.2.2.1 a = q.2.2.1 a) (f2 : q'.2.1 196 = q.2.1 196) (f3 : ∀ j, j ≠ i0 → q'.2.1 185 j = q.2.1 185 j) (f4 : ∀ j, j ≠ i0 → q'.2.1 186 j = q.2.1 186 j) : LFr v q q' ∧ UP q q' := by
  refine ⟨⟨fun e _ => ⟨fun a ha => ?_, by rw [f2]⟩, fun i _ a ha => ?_, fun w hw => ⟨f3 w (by omega), f4 w (by omega)⟩⟩, ⟨fun e _ => ⟨fun a ha => ?_, by rw [f2]⟩, fun i _ a ha => ?_, fun w hw => ⟨f3 w (by omega), f4 w (by omega)⟩⟩⟩
  all_goals rw [f1 a (by simp only [List.mem_cons, List.not_mem_nil, or_false] at ha ⊢; omega)]
theorem LU_b {q q' : ah_T} {v k : Int} {i0 : Nat} (hi : (i0 : Int) = 102 * v + k) (hv : v ≤ 3) (hk : 0 ≤ k) (hk2 : k ≤ 101) (f1 : ∀ a, a ∈ [187, 188, 189, 190] → q'.2.2.1 a = q.2.2.1 a) (f2 : ∀ a, a ∈ [185, 186, 196] → q'.2.1 a = q.2.1 a) (f3 : ∀ j, j ≠ i0 → q'.2.2.1 199 j = q.2.2.1 199 j) (f4 : ∀ j, j ≠ i0 → q'.2.2.1 200 j = q.2.2.1 200 j) : LFr v q q' ∧ UP q q' := by
  have fb : ∀ j, j ≠ i0 → ∀ a, a ∈ [199, 200] → q'.2.2.1 a j = q.2.2.1 a j := by
    intro j hj a ha
    simp only [List.mem_cons, List.not_mem_nil, or_false] at ha
    rcases ha with rfl | rfl
    · exact f3 j hj
    · exact f4 j hj
  refine ⟨⟨fun e _ => ⟨fun a ha => by rw [f1 a ha], by rw [f2 196 (by decide)]⟩, fun i _ => fb i (by omega), fun w _ => ⟨by rw [f2 185 (by decide)], by rw [f2 186 (by decide)]⟩⟩, ⟨fun e _ => ⟨fun a ha => by rw [f1 a ha], by rw [f2 196 (by decide)]⟩, fun i _ => fb i (by omega), fun w _ => ⟨by rw [f2 185 (by decide)], by rw [f2 186 (by decide)]⟩⟩⟩
def EC (q q' : ah_T) (a b : Nat) : Prop := (∀ n, n ∈ [187, 188, 189, 190] → q'.2.2.1 n a = q.2.2.1 n b ∧ ∀ j, j ≠ a → q'.2.2.1 n j = q.2.2.1 n j) ∧ q'.2.1 196 a = q.2.1 196 b ∧ ∀ j, j ≠ a → q'.2.1 196 j = q.2.1 196 j
theorem LU_e {P : Nat → Nat → Bool} {q q' : ah_T} {v k : Int} {i0 b0 : Nat} (hi : (i0 : Int) = 300 * v + k) (hv : v ≤ 3) (hk : 0 ≤ k) (hk2 : k ≤ 299) (x : EC q q' i0 b0) (kn : kM P q q') (hP : ∀ a, a ∈ [185, 186, 199, 200] → ∀ j, P a j = false) : LFr v q q' ∧ UP q q' := by
  obtain ⟨x1, x2, x3⟩ := x
  have fb : ∀ j : Nat, ∀ a, a ∈ [199, 200] → q'.2.2.1 a j = q.2.2.1 a j := by
    intro j a ha
    exact kn.2.2.2 a j (hP a (by simp only [List.mem_cons, List.not_mem_nil, or_false] at ha ⊢; omega) j)
  refine ⟨⟨fun e _ => ⟨fun a ha => (x1 a ha).2 e (by omega), x3 e (by omega)⟩, fun i _ => fb i, fun w _ => ⟨kn.2.2.1 185 w (hP 185 (by decide) w), kn.2.2.1 186 w (hP 186 (by decide) w)⟩⟩, ⟨fun e _ => ⟨fun a ha => (x1 a ha).2 e (by omega), x3 e (by omega)⟩, fun i _ => fb i, fun w _ => ⟨kn.2.2.1 185 w (hP 185 (by decide) w), kn.2.2.1 186 w (hP 186 (by decide) w)⟩⟩⟩
theorem CB_s {h q q' : ah_T} {v k x y : Int} {i0 j0 : Nat} (H : CB h q v k) (hv : 0 ≤ v) (hk : 0 ≤ k) (hk2 : k ≤ 101) (hi : (i0 : Int) = 102 * v + k) (hj : (j0 : Int) = 102 * (v + 4) + k) (hU : UP h q) (f3 : ∀ j, j ≠ i0 → q'.2.2.1 199 j = q.2.2.1 199 j) (f4 : ∀ j, j ≠ i0 → q'.2.2.1 200 j = q.2.2.1 200 j) (e1 : q'.2.2.1 199 i0 = x) (e2 : q'.2.2.1 200 i0 = y) (ex : x = q.2.2.1 199 j0) (ey : y = q.2.2.1 200 j0) : CB h q' v (k + 1) := by
  intro j h1
  by_cases he : (j : Int) = k
  · have i1 : (102 * v + (j : Int)).toNat = i0 := by omega
    have i2 : (102 * (v + 4) + (j : Int)).toNat = j0 := by omega
    rw [i1, i2, e1, e2, ex, ey]
    exact ⟨hU.2.1 j0 (by omega) 199 (by decide), hU.2.1 j0 (by omega) 200 (by decide)⟩
  · rw [f3 _ (by omega), f4 _ (by omega)]
    exact H j (by omega)
theorem CB_f {h q q' : ah_T} {v k : Int} (H : CB h q v k) (f1 : q'.2.2.1 199 = q.2.2.1 199) (f2 : q'.2.2.1 200 = q.2.2.1 200) : CB h q' v k := by
  unfold CB at *
  rw [f1, f2]
  exact H
theorem CE_s {h q q' : ah_T} {v k : Int} {i0 j0 : Nat} (H : CE h q v k) (hv : 0 ≤ v) (hk : 0 ≤ k) (hk2 : k ≤ 299) (hi : (i0 : Int) = 300 * v + k) (hj : (j0 : Int) = 300 * (v + 4) + k) (hU : UP h q) (x : EC q q' i0 j0) : CE h q' v (k + 1) := by
  obtain ⟨x1, x2, x3⟩ := x
  intro j h1
  by_cases he : (j : Int) = k
  · have i1 : (300 * v + (j : Int)).toNat = i0 := by omega
    have i2 : (300 * (v + 4) + (j : Int)).toNat = j0 := by omega
    rw [i1, i2, x2]
    exact ⟨fun a ha => by rw [(x1 a ha).1]; exact (hU.1 j0 (by omega)).1 a ha, (hU.1 j0 (by omega)).2⟩
  · obtain ⟨g1, g2⟩ := H j (by omega)
    exact ⟨fun a ha => by rw [(x1 a ha).2 _ (by omega)]; exact g1 a ha, by rw [x3 _ (by omega)]; exact g2⟩
theorem KJ_z {h q : ah_T} {v : Int} (hx : mi h) (hp : PV h) (H : KJ h q v) (C : KC h q v) (hv : 0 ≤ v) (hv2 : v < h.2.1 172 1) (hb : CB h q v 102) (he : CE h q v (h.2.1 185 (v + 4).toNat)) : KJ h q (v + 1) := by
  refine ⟨H.1, H.2.1, fun w hw => ?_, H.2.2.2⟩
  by_cases hc : (w : Int) = v
  · have e : v.toNat = w := by omega
    have := KE_z hv (fun w hw => hp.1 w (by omega) (by omega)) hx C.1 C.2 hb he
    rw [e] at this
    exact this
  · exact H.2.2.1 w (by omega)
