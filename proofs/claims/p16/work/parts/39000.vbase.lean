/-! ===== verification conditions: what stands on every heap ===== -/
def hb (s : Nat) (h : ah_T) : Prop :=
  h.1 = sh_L ∧ isS s ∧ h.2.2.2 0 3 = some (97 - s) ∧ h.2.2.2 2 5 = some s ∧ (h.2.2.2 3 6 = some 8 ∨ h.2.2.2 3 6 = some 1) ∧ (∀ q ∈ rf_L, h.2.2.2 q.1 q.2.1 = some q.2.2) ∧ (∀ q ∈ mf_L, h.2.2.2 170 q.1 = some q.2)
theorem hb_s {s : Nat} {h : ah_T} (hx : hb s h) {a : Nat} {v : Nat × Nat} (hv : sh_L[a]? = some v) : h.1[a]? = some v := by rw [hx.1]; exact hv
theorem hb_r {s : Nat} {h : ah_T} (hx : hb s h) {a k b : Nat} (hm : (a, k, b) ∈ rf_L) : h.2.2.2 a k = some b := hx.2.2.2.2.2.1 _ hm
theorem hb_m {s : Nat} {h : ah_T} (hx : hb s h) {k b : Nat} (hm : (k, b) ∈ mf_L) : h.2.2.2 170 k = some b := hx.2.2.2.2.2.2 _ hm
theorem hb_i {s : Nat} {h h1 : ah_T} {a k : Nat} {z : Int} (hx : hb s h) (e : h1 = st_i h a k z) : hb s h1 := by subst e; exact hx
theorem hb_l {s : Nat} {h h1 : ah_T} {a k : Nat} {z : Int} (hx : hb s h) (e : h1 = st_l h a k z) : hb s h1 := by subst e; exact hx
theorem hb_t {s : Nat} {h h1 : ah_T} (hx : hb s h) (e : h1 = st_r h 3 6 (some 1)) : hb s h1 := by
  subst e
  obtain ⟨x1, x2, x3, x4, x5, x6, x7⟩ := hx
  have key : ∀ a k, ¬ (a = 3 ∧ k = 6) → (st_r h 3 6 (some 1)).2.2.2 a k = h.2.2.2 a k := fun a k q => up2_o q
  refine ⟨x1, x2, (key 0 3 (by decide)).trans x3, (key 2 5 (by decide)).trans x4, Or.inr (by simp [st_r, up2]), fun q hq => ?_, fun q hq => ?_⟩
  · have h9 : ∀ q ∈ rf_L, ¬ (q.1 = 3 ∧ q.2.1 = 6) := by decide +kernel
    rw [key _ _ (h9 q hq)]
    exact x6 q hq
  · rw [key _ _ (fun w => absurd w.1 (by decide))]
    exact x7 q hq
theorem A_hn {G : cx_T} {R : Room} {M : mr_T} {cu su pc : Nat} {L : List (Option av_T)} {st : List av_T} {h : ah_T} {Q : Option av_T → ah_T → Prop} (k : ∀ h', h' = h → aw G R M cu su pc L st h' Q) : aw G R M cu su pc L st h Q := k h rfl
theorem mm_i {h h1 : ah_T} {a k b j : Nat} {z : Int} (e : h1 = st_i h a k z) (hn : ¬ (b = a ∧ j = k)) : h1.2.1 b j = h.2.1 b j := by subst e; exact up2_o hn
theorem mm_io {h h1 : ah_T} {a k b j : Nat} {z : Int} (e : h1 = st_i h a k z) : h1.2.2.1 b j = h.2.2.1 b j := by subst e; rfl
theorem mm_l {h h1 : ah_T} {a k b j : Nat} {z : Int} (e : h1 = st_l h a k z) (hn : ¬ (b = a ∧ j = k)) : h1.2.2.1 b j = h.2.2.1 b j := by subst e; exact up2_o hn
theorem mm_lo {h h1 : ah_T} {a k b j : Nat} {z : Int} (e : h1 = st_l h a k z) : h1.2.1 b j = h.2.1 b j := by subst e; rfl
theorem mv_i {h h1 : ah_T} {a k : Nat} {z : Int} (e : h1 = st_i h a k z) : h1.2.1 a k = z := by subst e; exact up2_at
theorem mv_l {h h1 : ah_T} {a k : Nat} {z : Int} (e : h1 = st_l h a k z) : h1.2.2.1 a k = z := by subst e; exact up2_at
theorem gi_i (h : ah_T) (a k : Nat) (z : Int) (b j : Nat) : (st_i h a k z).2.1 b j = if b = a ∧ j = k then z else h.2.1 b j := rfl
theorem gi_l (h : ah_T) (a k : Nat) (z : Int) (b j : Nat) : (st_l h a k z).2.1 b j = h.2.1 b j := rfl
theorem gl_l (h : ah_T) (a k : Nat) (z : Int) (b j : Nat) : (st_l h a k z).2.2.1 b j = if b = a ∧ j = k then z else h.2.2.1 b j := rfl
theorem gl_i (h : ah_T) (a k : Nat) (z : Int) (b j : Nat) : (st_i h a k z).2.2.1 b j = h.2.2.1 b j := rfl
theorem gi_r (h : ah_T) (a k : Nat) (z : Option Nat) (b j : Nat) : (st_r h a k z).2.1 b j = h.2.1 b j := rfl
theorem gl_r (h : ah_T) (a k : Nat) (z : Option Nat) (b j : Nat) : (st_r h a k z).2.2.1 b j = h.2.2.1 b j := rfl
theorem gr_i (h : ah_T) (a k : Nat) (z : Int) : (st_i h a k z).2.2.2 = h.2.2.2 := rfl
theorem gr_l (h : ah_T) (a k : Nat) (z : Int) : (st_l h a k z).2.2.2 = h.2.2.2 := rfl
theorem gr_r (h : ah_T) (a k : Nat) (z : Option Nat) (b j : Nat) : (st_r h a k z).2.2.2 b j = if b = a ∧ j = k then z else h.2.2.2 b j := rfl
theorem hs_V {s v : Nat} {h : ah_T} (hx : hb s h) (hv : isV v) : h.1[v]? = some (10 + 4, 17) := by
  refine hb_s hx ?_
  rcases hv with rfl | rfl | rfl | rfl | rfl | rfl | rfl | rfl <;> rfl
theorem hs_V_0 {s v : Nat} {h : ah_T} (hx : hb s h) (hv : isV v) : h.1[v + 1]? = some (0, 300) := by
  refine hb_s hx ?_
  rcases hv with rfl | rfl | rfl | rfl | rfl | rfl | rfl | rfl <;> rfl
theorem hr_V_0 {s v : Nat} {h : ah_T} (hx : hb s h) (hv : isV v) : h.2.2.2 v 0 = some (v + 1) := by
  rcases hv with rfl | rfl | rfl | rfl | rfl | rfl | rfl | rfl <;> exact hb_r hx (by decide)
theorem hs_V_1 {s v : Nat} {h : ah_T} (hx : hb s h) (hv : isV v) : h.1[v + 2]? = some (0, 300) := by
  refine hb_s hx ?_
  rcases hv with rfl | rfl | rfl | rfl | rfl | rfl | rfl | rfl <;> rfl
theorem hr_V_1 {s v : Nat} {h : ah_T} (hx : hb s h) (hv : isV v) : h.2.2.2 v 1 = some (v + 2) := by
  rcases hv with rfl | rfl | rfl | rfl | rfl | rfl | rfl | rfl <;> exact hb_r hx (by decide)
theorem hs_V_3 {s v : Nat} {h : ah_T} (hx : hb s h) (hv : isV v) : h.1[v + 3]? = some (0, 301) := by
  refine hb_s hx ?_
  rcases hv with rfl | rfl | rfl | rfl | rfl | rfl | rfl | rfl <;> rfl
theorem hr_V_3 {s v : Nat} {h : ah_T} (hx : hb s h) (hv : isV v) : h.2.2.2 v 3 = some (v + 3) := by
  rcases hv with rfl | rfl | rfl | rfl | rfl | rfl | rfl | rfl <;> exact hb_r hx (by decide)
theorem hs_V_4 {s v : Nat} {h : ah_T} (hx : hb s h) (hv : isV v) : h.1[v + 4]? = some (0, 300) := by
  refine hb_s hx ?_
  rcases hv with rfl | rfl | rfl | rfl | rfl | rfl | rfl | rfl <;> rfl
theorem hr_V_4 {s v : Nat} {h : ah_T} (hx : hb s h) (hv : isV v) : h.2.2.2 v 4 = some (v + 4) := by
  rcases hv with rfl | rfl | rfl | rfl | rfl | rfl | rfl | rfl <;> exact hb_r hx (by decide)
theorem hs_V_5 {s v : Nat} {h : ah_T} (hx : hb s h) (hv : isV v) : h.1[v + 5]? = some (0, 300) := by
  refine hb_s hx ?_
  rcases hv with rfl | rfl | rfl | rfl | rfl | rfl | rfl | rfl <;> rfl
theorem hr_V_5 {s v : Nat} {h : ah_T} (hx : hb s h) (hv : isV v) : h.2.2.2 v 5 = some (v + 5) := by
  rcases hv with rfl | rfl | rfl | rfl | rfl | rfl | rfl | rfl <;> exact hb_r hx (by decide)
theorem hs_V_6 {s v : Nat} {h : ah_T} (hx : hb s h) (hv : isV v) : h.1[v + 6]? = some (2, 300) := by
  refine hb_s hx ?_
  rcases hv with rfl | rfl | rfl | rfl | rfl | rfl | rfl | rfl <;> rfl
theorem hr_V_6 {s v : Nat} {h : ah_T} (hx : hb s h) (hv : isV v) : h.2.2.2 v 6 = some (v + 6) := by
  rcases hv with rfl | rfl | rfl | rfl | rfl | rfl | rfl | rfl <;> exact hb_r hx (by decide)
theorem hs_V_8 {s v : Nat} {h : ah_T} (hx : hb s h) (hv : isV v) : h.1[v + 7]? = some (0, 300) := by
  refine hb_s hx ?_
  rcases hv with rfl | rfl | rfl | rfl | rfl | rfl | rfl | rfl <;> rfl
theorem hr_V_8 {s v : Nat} {h : ah_T} (hx : hb s h) (hv : isV v) : h.2.2.2 v 8 = some (v + 7) := by
  rcases hv with rfl | rfl | rfl | rfl | rfl | rfl | rfl | rfl <;> exact hb_r hx (by decide)
theorem hs_V_9 {s v : Nat} {h : ah_T} (hx : hb s h) (hv : isV v) : h.1[v + 8]? = some (0, 300) := by
  refine hb_s hx ?_
  rcases hv with rfl | rfl | rfl | rfl | rfl | rfl | rfl | rfl <;> rfl
theorem hr_V_9 {s v : Nat} {h : ah_T} (hx : hb s h) (hv : isV v) : h.2.2.2 v 9 = some (v + 8) := by
  rcases hv with rfl | rfl | rfl | rfl | rfl | rfl | rfl | rfl <;> exact hb_r hx (by decide)
theorem hs_V_10 {s v : Nat} {h : ah_T} (hx : hb s h) (hv : isV v) : h.1[v + 9]? = some (1, 301) := by
  refine hb_s hx ?_
  rcases hv with rfl | rfl | rfl | rfl | rfl | rfl | rfl | rfl <;> rfl
theorem hr_V_10 {s v : Nat} {h : ah_T} (hx : hb s h) (hv : isV v) : h.2.2.2 v 10 = some (v + 9) := by
  rcases hv with rfl | rfl | rfl | rfl | rfl | rfl | rfl | rfl <;> exact hb_r hx (by decide)
theorem hs_V_11 {s v : Nat} {h : ah_T} (hx : hb s h) (hv : isV v) : h.1[v + 10]? = some (1, 301) := by
  refine hb_s hx ?_
  rcases hv with rfl | rfl | rfl | rfl | rfl | rfl | rfl | rfl <;> rfl
theorem hr_V_11 {s v : Nat} {h : ah_T} (hx : hb s h) (hv : isV v) : h.2.2.2 v 11 = some (v + 10) := by
  rcases hv with rfl | rfl | rfl | rfl | rfl | rfl | rfl | rfl <;> exact hb_r hx (by decide)
theorem hs_V_12 {s v : Nat} {h : ah_T} (hx : hb s h) (hv : isV v) : h.1[v + 11]? = some (1, 300) := by
  refine hb_s hx ?_
  rcases hv with rfl | rfl | rfl | rfl | rfl | rfl | rfl | rfl <;> rfl
theorem hr_V_12 {s v : Nat} {h : ah_T} (hx : hb s h) (hv : isV v) : h.2.2.2 v 12 = some (v + 11) := by
  rcases hv with rfl | rfl | rfl | rfl | rfl | rfl | rfl | rfl <;> exact hb_r hx (by decide)
theorem hs_V_13 {s v : Nat} {h : ah_T} (hx : hb s h) (hv : isV v) : h.1[v + 12]? = some (1, 300) := by
  refine hb_s hx ?_
  rcases hv with rfl | rfl | rfl | rfl | rfl | rfl | rfl | rfl <;> rfl
theorem hr_V_13 {s v : Nat} {h : ah_T} (hx : hb s h) (hv : isV v) : h.2.2.2 v 13 = some (v + 12) := by
  rcases hv with rfl | rfl | rfl | rfl | rfl | rfl | rfl | rfl <;> exact hb_r hx (by decide)
theorem hs_V_15 {s v : Nat} {h : ah_T} (hx : hb s h) (hv : isV v) : h.1[v + 13]? = some (0, 102) := by
  refine hb_s hx ?_
  rcases hv with rfl | rfl | rfl | rfl | rfl | rfl | rfl | rfl <;> rfl
theorem hr_V_15 {s v : Nat} {h : ah_T} (hx : hb s h) (hv : isV v) : h.2.2.2 v 15 = some (v + 13) := by
  rcases hv with rfl | rfl | rfl | rfl | rfl | rfl | rfl | rfl <;> exact hb_r hx (by decide)
theorem hs_S {s v : Nat} {h : ah_T} (hx : hb s h) (hv : isS v) : h.1[v]? = some (6 + 4, 13) := by
  refine hb_s hx ?_
  rcases hv with rfl | rfl <;> rfl
theorem hs_S_0 {s v : Nat} {h : ah_T} (hx : hb s h) (hv : isS v) : h.1[v + 1]? = some (3, 4) := by
  refine hb_s hx ?_
  rcases hv with rfl | rfl <;> rfl
theorem hr_S_0 {s v : Nat} {h : ah_T} (hx : hb s h) (hv : isS v) : h.2.2.2 v 0 = some (v + 1) := by
  rcases hv with rfl | rfl <;> exact hb_r hx (by decide)
theorem hs_S_5 {s v : Nat} {h : ah_T} (hx : hb s h) (hv : isS v) : h.1[v + 2]? = some (0, 8) := by
  refine hb_s hx ?_
  rcases hv with rfl | rfl <;> rfl
theorem hr_S_5 {s v : Nat} {h : ah_T} (hx : hb s h) (hv : isS v) : h.2.2.2 v 5 = some (v + 2) := by
  rcases hv with rfl | rfl <;> exact hb_r hx (by decide)
theorem hs_S_7 {s v : Nat} {h : ah_T} (hx : hb s h) (hv : isS v) : h.1[v + 3]? = some (0, 24) := by
  refine hb_s hx ?_
  rcases hv with rfl | rfl <;> rfl
theorem hr_S_7 {s v : Nat} {h : ah_T} (hx : hb s h) (hv : isS v) : h.2.2.2 v 7 = some (v + 3) := by
  rcases hv with rfl | rfl <;> exact hb_r hx (by decide)
theorem hs_S_8 {s v : Nat} {h : ah_T} (hx : hb s h) (hv : isS v) : h.1[v + 4]? = some (0, 24) := by
  refine hb_s hx ?_
  rcases hv with rfl | rfl <;> rfl
theorem hr_S_8 {s v : Nat} {h : ah_T} (hx : hb s h) (hv : isS v) : h.2.2.2 v 8 = some (v + 4) := by
  rcases hv with rfl | rfl <;> exact hb_r hx (by decide)
theorem hs_S_9 {s v : Nat} {h : ah_T} (hx : hb s h) (hv : isS v) : h.1[v + 5]? = some (0, 24) := by
  refine hb_s hx ?_
  rcases hv with rfl | rfl <;> rfl
theorem hr_S_9 {s v : Nat} {h : ah_T} (hx : hb s h) (hv : isS v) : h.2.2.2 v 9 = some (v + 5) := by
  rcases hv with rfl | rfl <;> exact hb_r hx (by decide)
theorem hs_S_11 {s v : Nat} {h : ah_T} (hx : hb s h) (hv : isS v) : h.1[v + 6]? = some (0, 12) := by
  refine hb_s hx ?_
  rcases hv with rfl | rfl <;> rfl
theorem hr_S_11 {s v : Nat} {h : ah_T} (hx : hb s h) (hv : isS v) : h.2.2.2 v 11 = some (v + 6) := by
  rcases hv with rfl | rfl <;> exact hb_r hx (by decide)
theorem hr_Sv {s t : Nat} {h : ah_T} (hx : hb s h) (ht : isS t) {i : Int} (h0 : 0 ≤ i) (h1 : i < (4 : Nat)) : h.2.2.2 (t + 1) i.toNat = some (t + 7 + 14 * i.toNat) := by
  have hi : i = 0 ∨ i = 1 ∨ i = 2 ∨ i = 3 := by omega
  rcases ht with rfl | rfl <;> rcases hi with rfl | rfl | rfl | rfl
  · exact hb_r hx (by decide)
  · exact hb_r hx (by decide)
  · exact hb_r hx (by decide)
  · exact hb_r hx (by decide)
  · exact hb_r hx (by decide)
  · exact hb_r hx (by decide)
  · exact hb_r hx (by decide)
  · exact hb_r hx (by decide)
theorem iV_n {t : Nat} (ht : isS t) {i : Int} (h0 : 0 ≤ i) (h1 : i < (4 : Nat)) : isV (t + 7 + 14 * i.toNat) := by
  unfold isS at ht
  unfold isV
  omega
theorem con_mono {G : cx_T} {d mc ms : Nat} {M : mr_T} {As : List av_T} {h : ah_T} {Q Q' : Option av_T → ah_T → Prop} (H : con G d mc ms M As h Q) (hq : ∀ r h', Q r h' → Q' r h') : con G d mc ms M As h Q' := by
  intro hn
  have H1 := H hn
  unfold Met MetFree at *
  intro p e hp hf hc s m args below hs ha hP hK
  obtain ⟨n, o, h1, h2, h3, ⟨h4, h5⟩, h6⟩ := H1 p e hp hf hc s m args below hs ha hP hK
  obtain ⟨r, h', q1, q2, q3, q4, q5⟩ := h4
  exact ⟨n, o, h1, h2, h3, ⟨⟨r, h', q1, q2, hq r h' q3, q4, q5⟩, h5⟩, h6⟩

/-! ===== what a method leaves as it was ===== -/
def fr (W : Nat → Nat → Prop) (h h' : ah_T) : Prop := (∀ a k, ¬ W a k → h'.2.1 a k = h.2.1 a k ∧ h'.2.2.1 a k = h.2.2.1 a k) ∧ (h.2.2.2 3 6 = some 1 → h'.2.2.2 3 6 = some 1)
theorem fr_0 {W : Nat → Nat → Prop} {h : ah_T} : fr W h h := ⟨fun _ _ _ => ⟨rfl, rfl⟩, id⟩
theorem fr_i {W : Nat → Nat → Prop} {h0 h h1 : ah_T} {a k : Nat} {z : Int} (f : fr W h0 h) (e : h1 = st_i h a k z) (hW : W a k) : fr W h0 h1 := by
  subst e
  refine ⟨fun b j hb => ⟨?_, (f.1 b j hb).2⟩, f.2⟩
  rw [gi_i, if_neg (fun q => hb (by rw [q.1, q.2]; exact hW))]
  exact (f.1 b j hb).1
theorem fr_l {W : Nat → Nat → Prop} {h0 h h1 : ah_T} {a k : Nat} {z : Int} (f : fr W h0 h) (e : h1 = st_l h a k z) (hW : W a k) : fr W h0 h1 := by
  subst e
  refine ⟨fun b j hb => ⟨(f.1 b j hb).1, ?_⟩, f.2⟩
  rw [gl_l, if_neg (fun q => hb (by rw [q.1, q.2]; exact hW))]
  exact (f.1 b j hb).2
theorem fr_t {W W' : Nat → Nat → Prop} {h0 h h1 : ah_T} (f : fr W h0 h) (g : fr W' h h1) (hs : ∀ a k, W' a k → W a k) : fr W h0 h1 :=
  ⟨fun a k q => ⟨(g.1 a k (fun w => q (hs a k w))).1.trans (f.1 a k q).1, (g.1 a k (fun w => q (hs a k w))).2.trans (f.1 a k q).2⟩, fun q => g.2 (f.2 q)⟩
theorem fr_w {W W' : Nat → Nat → Prop} {h h1 : ah_T} (g : fr W' h h1) (hs : ∀ a k, W' a k → W a k) : fr W h h1 := fr_t fr_0 g hs
theorem fr_g {W : Nat → Nat → Prop} {h h' : ah_T} (f : fr W h h') {a k : Nat} (q : ¬ W a k) : h'.2.1 a k = h.2.1 a k := (f.1 a k q).1
theorem fr_gl {W : Nat → Nat → Prop} {h h' : ah_T} (f : fr W h h') {a k : Nat} (q : ¬ W a k) : h'.2.2.1 a k = h.2.2.1 a k := (f.1 a k q).2
theorem tn_c (p : Nat) : ((p : Int)).toNat = p := Int.toNat_natCast p
theorem fr_r {W : Nat → Nat → Prop} {h0 h h1 : ah_T} (f : fr W h0 h) (e : h1 = st_r h 3 6 (some 1)) : fr W h0 h1 := by
  subst e
  exact ⟨f.1, fun _ => by simp [st_r, up2]⟩
