/-! ===== verification conditions: what stands on every heap ===== -/
def hb (s : Nat) (h : ah_T) : Prop :=
  h.1 = sh_L ∧ isS s ∧ h.2.2.2 0 3 = some (97 - s) ∧ h.2.2.2 2 5 = some s ∧ (h.2.2.2 3 6 = some 8 ∨ h.2.2.2 3 6 = some 1) ∧ (∀ q ∈ rf_L, h.2.2.2 q.1 q.2.1 = some q.2.2) ∧ (∀ q ∈ mf_L, h.2.2.2 170 q.1 = some q.2)
theorem hb_s {s : Nat} {h : ah_T} (hx : hb s h) {a : Nat} {v : Nat × Nat} (hv : sh_L[a]? = some v) : h.1[a]? = some v := by rw [hx.1]; exact hv
theorem hb_r {s : Nat} {h : ah_T} (hx : hb s h) {a k b : Nat} (hm : (a, k, b) ∈ rf_L) : h.2.2.2 a k = some b := hx.2.2.2.2.2.1 _ hm
theorem hb_m {s : Nat} {h : ah_T} (hx : hb s h) {k b : Nat} (hm : (k, b) ∈ mf_L) : h.2.2.2 170 k = some b := hx.2.2.2.2.2.2 _ hm
theorem hb_i {s : Nat} {h h1 : ah_T} {a k : Nat} {z : Int} (hx : hb s h) (e : h1 = st_i h a k z) : hb s h1 := by subst e; exact hx
theorem hb_l {s : Nat} {h h1 : ah_T} {a k : Nat} {z : Int} (hx : hb s h) (e : h1 = st_l h a k z) : hb s h1 := by subst e; exact hx
theorem hb_t {s : Nat} {h h1 : ah_T} (hx : hb s h) (e : h1 = st_r h 3 6 (some 1)) : hb s h1 := by
  subst e
  obtain ⟨x1, x2, x3, x4, x5, x6, x7⟩ := hx
  have key : ∀ a k, ¬ (a = 3 ∧ k = 6) → (st_r h 3 6 (some 1)).2.2.2 a k = h.2.2.2 a k := fun a k q => up2_o q
  refine ⟨x1, x2, (key 0 3 (by decide)).trans x3, (key 2 5 (by decide)).trans x4, Or.inr (by simp [st_r, up2]), fun q hq => ?_, fun q hq => ?_⟩
  · have h9 : ∀ q ∈ rf_L, ¬ (q.1 = 3 ∧ q.2.1 = 6) := by decide +kernel
    rw [key _ _ (h9 q hq)]
    exact x6 q hq
  · rw [key _ _ (fun w => absurd w.1 (by decide))]
    exact x7 q hq
theorem A_hn {G : cx_T} {R : Room} {M : mr_T} {cu su pc : Nat} {L : List (Option av_T)} {st : List av_T} {h : ah_T} {Q : Option av_T → ah_T → Prop} (k : ∀ h', h' = h → aw G R M cu su pc L st h' Q) : aw G R M cu su pc L st h Q := k h rfl
theorem mm_i {h h1 : ah_T} {a k b j : Nat} {z : Int} (e : h1 = st_i h a k z) (hn : ¬ (b = a ∧ j = k)) : h1.2.1 b j = h.2.1 b j := by subst e; exact up2_o hn
theorem mm_io {h h1 : ah_T} {a k b j : Nat} {z : Int} (e : h1 = st_i h a k z) : h1.2.2.1 b j = h.2.2.1 b j := by subst e; rfl
theorem mm_l {h h1 : ah_T} {a k b j : Nat} {z : Int} (e : h1 = st_l h a k z) (hn : ¬ (b = a ∧ j = k)) : h1.2.2.1 b j = h.2.2.1 b j := by subst e; exact up2_o hn
theorem mm_lo {h h1 : ah_T} {a k b j : Nat} {z : Int} (e : h1 = st_l h a k z) : h1.2.1 b j = h.2.1 b j := by subst e; rfl
theorem mv_i {h h1 : ah_T} {a k : Nat} {z : Int} (e : h1 = st_i h a k z) : h1.2.1 a k = z := by subst e; exact up2_at
theorem mv_l {h h1 : ah_T} {a k : Nat} {z : Int} (e : h1 = st_l h a k z) : h1.2.2.1 a k = z := by subst e; exact up2_at
theorem gi_i (h : ah_T) (a k : Nat) (z : Int) (b j : Nat) : (st_i h a k z).2.1 b j = if b = a ∧ j = k then z else h.2.1 b j := rfl
theorem gi_l (h : ah_T) (a k : Nat) (z : Int) (b j : Nat) : (st_l h a k z).2.1 b j = h.2.1 b j := rfl
theorem gl_l (h : ah_T) (a k : Nat) (z : Int) (b j : Nat) : (st_l h a k z).2.2.1 b j = if b = a ∧ j = k then z else h.2.2.1 b j := rfl
theorem gl_i (h : ah_T) (a k : Nat) (z : Int) (b j : Nat) : (st_i h a k z).2.2.1 b j = h.2.2.1 b j := rfl
theorem gi_r (h : ah_T) (a k : Nat) (z : Option Nat) (b j : Nat) : (st_r h a k z).2.1 b j = h.2.1 b j := rfl
theorem gl_r (h : ah_T) (a k : Nat) (z : Option Nat) (b j : Nat) : (st_r h a k z).2.2.1 b j = h.2.2.1 b j := rfl
theorem gr_i (h : ah_T) (a k : Nat) (z : Int) : (st_i h a k z).2.2.2 = h.2.2.2 := rfl
theorem gr_l (h : ah_T) (a k : Nat) (z : Int) : (st_l h a k z).2.2.2 = h.2.2.2 := rfl
theorem gr_r (h : ah_T) (a k : Nat) (z : Option Nat) (b j : Nat) : (st_r h a k z).2.2.2 b j = if b = a ∧ j = k then z else h.2.2.2 b j := rfl
theorem hs_V {s v : Nat} {h : ah_T} (hx : hb s h) (hv : isV v) : h.1[v]? = some (10 + 4, 17) := by
  refine hb_s hx ?_
  rcases hv with rfl | rfl | rfl | rfl | rfl | rfl | rfl | rfl <;> rfl
theorem hs_V_0 {s v : Nat} {h : ah_T} (hx : hb s h) (hv : isV v) : h.1[v + 1]? = some (0, 300) := by
  refine hb_s hx ?_
  rcases hv with rfl | rfl | rfl | rfl | rfl | rfl | rfl | rfl <;> rfl
theorem hr_V_0 {s v : Nat} {h : ah_T} (hx : hb s h) (hv : isV v) : h.2.2.2 v 0 = some (v + 1) := by
  rcases hv with rfl | rfl | rfl | rfl | rfl | rfl | rfl | rfl <;> exact hb_r hx (by decide)
theorem hs_V_1 {s v : Nat} {h : ah_T} (hx : hb s h) (hv : isV v) : h.1[v + 2]? = some (0, 300) := by
  refine hb_s hx ?_
  rcases hv with rfl | rfl | rfl | rfl | rfl | rfl | rfl | rfl <;> rfl
theorem hr_V_1 {s v : Nat} {h : ah_T} (hx : hb s h) (hv : isV v) : h.2.2.2 v 1 = some (v + 2) := by
  rcases hv with rfl | rfl | rfl | rfl | rfl | rfl | rfl | rfl <;> exact hb_r hx (by decide)
theorem hs_V_3 {s v : Nat} {h : ah_T} (hx : hb s h) (hv : isV v) : h.1[v + 3]? = some (0, 301) := by
  refine hb_s hx ?_
  rcases hv with rfl | rfl | rfl | rfl | rfl | rfl | rfl | rfl <;> rfl
theorem hr_V_3 {s v : Nat} {h : ah_T} (hx : hb s h) (hv : isV v) : h.2.2.2 v 3 = some (v + 3) := by
  rcases hv with rfl | rfl | rfl | rfl | rfl | rfl | rfl | rfl <;> exact hb_r hx (by decide)
theorem hs_V_4 {s v : Nat} {h : ah_T} (hx : hb s h) (hv : isV v) : h.1[v + 4]? = some (0, 300) := by
  refine hb_s hx ?_
  rcases hv with rfl | rfl | rfl | rfl | rfl | rfl | rfl | rfl <;> rfl
theorem hr_V_4 {s v : Nat} {h : ah_T} (hx : hb s h) (hv : isV v) : h.2.2.2 v 4 = some (v + 4) := by
  rcases hv with rfl | rfl | rfl | rfl | rfl | rfl | rfl | rfl <;> exact hb_r hx (by decide)
theorem hs_V_5 {s v : Nat} {h : ah_T} (hx : hb s h) (hv : isV v) : h.1[v + 5]? = some (0, 300) := by
  refine hb_s hx ?_
  rcases hv with rfl | rfl | rfl | rfl | rfl | rfl | rfl | rfl <;> rfl
theorem hr_V_5 {s v : Nat} {h : ah_T} (hx : hb s h) (hv : isV v) : h.2.2.2 v 5 = some (v + 5) := by
  rcases hv with rfl | rfl | rfl | rfl | rfl | rfl | rfl | rfl <;> exact hb_r hx (by decide)
theorem hs_V_6 {s v : Nat} {h : ah_T} (hx : hb s h) (hv : isV v) : h.1[v + 6]? = some (2, 300) := by
  refine hb_s hx ?_
  rcases hv with rfl | rfl | rfl | rfl | rfl | rfl | rfl | rfl <;> rfl
theorem hr_V_6 {s v : Nat} {h : ah_T} (hx : hb s h) (hv : isV v) : h.2.2.2 v 6 = some (v + 6) := by
  rcases hv with rfl | rfl | rfl | rfl | rfl | rfl | rfl | rfl <;> exact hb_r hx (by decide)
theorem hs_V_8 {s v : Nat} {h : ah_T} (hx : hb s h) (hv : isV v) : h.1[v + 7]? = some (0, 300) := by
  refine hb_s hx ?_
  rcases hv with rfl | rfl | rfl | rfl | rfl | rfl | rfl | rfl <;> rfl
theorem hr_V_8 {s v : Nat} {h : ah_T} (hx : hb s h) (hv : isV v) : h.2.2.2 v 8 = some (v + 7) := by
  rcases hv with rfl | rfl | rfl | rfl | rfl | rfl | rfl | rfl <;> exact hb_r hx (by decide)
theorem hs_V_9 {s v : Nat} {h : ah_T} (hx : hb s h) (hv : isV v) : h.1[v + 8]? = some (0, 300) := by
  refine hb_s hx ?_
  rcases hv with rfl | rfl | rfl | rfl | rfl | rfl | rfl | rfl <;> rfl
theorem hr_V_9 {s v : Nat} {h : ah_T} (hx : hb s h) (hv : isV v) : h.2.2.2 v 9 = some (v + 8) := by
  rcases hv with rfl | rfl | rfl | rfl | rfl | rfl | rfl | rfl <;> exact hb_r hx (by decide)
theorem hs_V_10 {s v : Nat} {h : ah_T} (hx : hb s h) (hv : isV v) : h.1[v + 9]? = some (1, 301) := by
  refine hb_s hx ?_
  rcases hv with rfl | rfl | rfl | rfl | rfl | rfl | rfl | rfl <;> rfl
theorem hr_V_10 {s v : Nat} {h : ah_T} (hx : hb s h) (hv : isV v) : h.2.2.2 v 10 = some (v + 9) := by
  rcases hv with rfl | rfl | rfl | rfl | rfl | rfl | rfl | rfl <;> exact hb_r hx (by decide)
theorem hs_V_11 {s v : Nat} {h : ah_T} (hx : hb s h) (hv : isV v) : h.1[v + 10]? = some (1, 301) := by
  refine hb_s hx ?_
  rcases hv with rfl | rfl | rfl | rfl | rfl | rfl | rfl | rfl <;> rfl
theorem hr_V_11 {s v : Nat} {h : ah_T} (hx : hb s h) (hv : isV v) : h.2.2.2 v 11 = some (v + 10) := by
  rcases hv with rfl | rfl | rfl | rfl | rfl | rfl | rfl | rfl <;> exact hb_r hx (by decide)
theorem hs_V_12 {s v : Nat} {h : ah_T} (hx : hb s h) (hv : isV v) : h.1[v + 11]? = some (1, 300) := by
  refine hb_s hx ?_
  rcases hv with rfl | rfl | rfl | rfl | rfl | rfl | rfl | rfl <;> rfl
theorem hr_V_12 {s v : Nat} {h : ah_T} (hx : hb s h) (hv : isV v) : h.2.2.2 v 12 = some (v + 11) := by
  rcases hv with rfl | rfl | rfl | rfl | rfl | rfl | rfl | rfl <;> exact hb_r hx (by decide)
theorem hs_V_13 {s v : Nat} {h : ah_T} (hx : hb s h) (hv : isV v) : h.1[v + 12]? = some (1, 300) := by
  refine hb_s hx ?_
  rcases hv with rfl | rfl | rfl | rfl | rfl | rfl | rfl | rfl <;> rfl
theorem hr_V_13 {s v : Nat} {h : ah_T} (hx : hb s h) (hv : isV v) : h.2.2.2 v 13 = some (v + 12) := by
  rcases hv with rfl | rfl | rfl | rfl | rfl | rfl | rfl | rfl <;> exact hb_r hx (by decide)
theorem hs_V_15 {s v : Nat} {h : ah_T} (hx : hb s h) (hv : isV v) : h.1[v + 13]? = some (0, 102) := by
  refine hb_s hx ?_
  rcases hv with rfl | rfl | rfl | rfl | rfl | rfl | rfl | rfl <;> rfl
theorem hr_V_15 {s v : Nat} {h : ah_T} (hx : hb s h) (hv : isV v) : h.2.2.2 v 15 = some (v + 13) := by
  rcases hv with rfl | rfl | rfl | rfl | rfl | rfl | rfl | rfl <;> exact hb_r hx (by decide)
theorem hs_S {s v : Nat} {h : ah_T} (hx : hb s h) (hv : isS v) : h.1[v]? = some (6 + 4, 13) := by
  refine hb_s hx ?_
  rcases hv with rfl | rfl <;> rfl
theorem hs_S_0 {s v : Nat} {h : ah_T} (hx : hb s h) (hv : isS v) : h.1[v + 1]? = some (3, 4) := by
  refine hb_s hx ?_
  rcases hv with rfl | rfl <;> rfl
theorem hr_S_0 {s v : Nat} {h : ah_T} (hx : hb s h) (hv : isS v) : h.2.2.2 v 0 = some (v + 1) := by
  rcases hv with rfl | rfl <;> exact hb_r hx (by decide)
theorem hs_S_5 {s v : Nat} {h : ah_T} (hx : hb s h) (hv : isS v) : h.1[v + 2]? = some (0, 8) := by
  refine hb_s hx ?_
  rcases hv with rfl | rfl <;> rfl
theorem hr_S_5 {s v : Nat} {h : ah_T} (hx : hb s h) (hv : isS v) : h.2.2.2 v 5 = some (v + 2) := by
  rcases hv with rfl | rfl <;> exact hb_r hx (by decide)
theorem hs_S_7 {s v : Nat} {h : ah_T} (hx : hb s h) (hv : isS v) : h.1[v + 3]? = some (0, 24) := by
  refine hb_s hx ?_
  rcases hv with rfl | rfl <;> rfl
theorem hr_S_7 {s v : Nat} {h : ah_T} (hx : hb s h) (hv : isS v) : h.2.2.2 v 7 = some (v + 3) := by
  rcases hv with rfl | rfl <;> exact hb_r hx (by decide)
theorem hs_S_8 {s v : Nat} {h : ah_T} (hx : hb s h) (hv : isS v) : h.1[v + 4]? = some (0, 24) := by
  refine hb_s hx ?_
  rcases hv with rfl | rfl <;> rfl
theorem hr_S_8 {s v : Nat} {h : ah_T} (hx : hb s h) (hv : isS v) : h.2.2.2 v 8 = some (v + 4) := by
  rcases hv with rfl | rfl <;> exact hb_r hx (by decide)
theorem hs_S_9 {s v : Nat} {h : ah_T} (hx : hb s h) (hv : isS v) : h.1[v + 5]? = some (0, 24) := by
  refine hb_s hx ?_
  rcases hv with rfl | rfl <;> rfl
theorem hr_S_9 {s v : Nat} {h : ah_T} (hx : hb s h) (hv : isS v) : h.2.2.2 v 9 = some (v + 5) := by
  rcases hv with rfl | rfl <;> exact hb_r hx (by decide)
theorem hs_S_11 {s v : Nat} {h : ah_T} (hx : hb s h) (hv : isS v) : h.1[v + 6]? = some (0, 12) := by
  refine hb_s hx ?_
  rcases hv with rfl | rfl <;> rfl
theorem hr_S_11 {s v : Nat} {h : ah_T} (hx : hb s h) (hv : isS v) : h.2.2.2 v 11 = some (v + 6) := by
  rcases hv with rfl | rfl <;> exact hb_r hx (by decide)
theorem hr_Sv {s t : Nat} {h : ah_T} (hx : hb s h) (ht : isS t) {i : Int} (h0 : 0 ≤ i) (h1 : i < (4 : Nat)) : h.2.2.2 (t + 1) i.toNat = some (t + 7 + 14 * i.toNat) := by
  have hi : i = 0 ∨ i = 1 ∨ i = 2 ∨ i = 3 := by omega
  rcases ht with rfl | rfl <;> rcases hi with rfl | rfl | rfl | rfl
  · exact hb_r hx (by decide)
  · exact hb_r hx (by decide)
  · exact hb_r hx (by decide)
  · exact hb_r hx (by decide)
  · exact hb_r hx (by decide)
  · exact hb_r hx (by decide)
  · exact hb_r hx (by decide)
  · exact hb_r hx (by decide)
theorem iV_n {t : Nat} (ht : isS t) {i : Int} (h0 : 0 ≤ i) (h1 : i < (4 : Nat)) : isV (t + 7 + 14 * i.toNat) := by
  unfold isS at ht
  unfold isV
  omega
theorem con_mono {G : cx_T} {d mc ms : Nat} {M : mr_T} {As : List av_T} {h : ah_T} {Q Q' : Option av_T → ah_T → Prop} (H : con G d mc ms M As h Q) (hq : ∀ r h', Q r h' → Q' r h') : con G d mc ms M As h Q' := by
  intro hn
  have H1 := H hn
  unfold Met MetFree at *
  intro p e hp hf hc s m args below hs ha hP hK
  obtain ⟨n, o, h1, h2, h3, ⟨h4, h5⟩, h6⟩ := H1 p e hp hf hc s m args below hs ha hP hK
  obtain ⟨r, h', q1, q2, q3, q4, q5⟩ := h4
  exact ⟨n, o, h1, h2, h3, ⟨⟨r, h', q1, q2, hq r h' q3, q4, q5⟩, h5⟩, h6⟩

/-! ===== what a method leaves as it was ===== -/
def fr (W : Nat → Nat → Prop) (h h' : ah_T) : Prop := (∀ a k, ¬ W a k → h'.2.1 a k = h.2.1 a k ∧ h'.2.2.1 a k = h.2.2.1 a k) ∧ (h.2.2.2 3 6 = some 1 → h'.2.2.2 3 6 = some 1)
theorem fr_0 {W : Nat → Nat → Prop} {h : ah_T} : fr W h h := ⟨fun _ _ _ => ⟨rfl, rfl⟩, id⟩
theorem fr_i {W : Nat → Nat → Prop} {h0 h h1 : ah_T} {a k : Nat} {z : Int} (f : fr W h0 h) (e : h1 = st_i h a k z) (hW : W a k) : fr W h0 h1 := by
  subst e
  refine ⟨fun b j hb => ⟨?_, (f.1 b j hb).2⟩, f.2⟩
  rw [gi_i, if_neg (fun q => hb (by rw [q.1, q.2]; exact hW))]
  exact (f.1 b j hb).1
theorem fr_l {W : Nat → Nat → Prop} {h0 h h1 : ah_T} {a k : Nat} {z : Int} (f : fr W h0 h) (e : h1 = st_l h a k z) (hW : W a k) : fr W h0 h1 := by
  subst e
  refine ⟨fun b j hb => ⟨(f.1 b j hb).1, ?_⟩, f.2⟩
  rw [gl_l, if_neg (fun q => hb (by rw [q.1, q.2]; exact hW))]
  exact (f.1 b j hb).2
theorem fr_t {W W' : Nat → Nat → Prop} {h0 h h1 : ah_T} (f : fr W h0 h) (g : fr W' h h1) (hs : ∀ a k, W' a k → W a k) : fr W h0 h1 :=
  ⟨fun a k q => ⟨(g.1 a k (fun w => q (hs a k w))).1.trans (f.1 a k q).1, (g.1 a k (fun w => q (hs a k w))).2.trans (f.1 a k q).2⟩, fun q => g.2 (f.2 q)⟩
theorem fr_w {W W' : Nat → Nat → Prop} {h h1 : ah_T} (g : fr W' h h1) (hs : ∀ a k, W' a k → W a k) : fr W h h1 := fr_t fr_0 g hs
theorem fr_g {W : Nat → Nat → Prop} {h h' : ah_T} (f : fr W h h') {a k : Nat} (q : ¬ W a k) : h'.2.1 a k = h.2.1 a k := (f.1 a k q).1
theorem fr_gl {W : Nat → Nat → Prop} {h h' : ah_T} (f : fr W h h') {a k : Nat} (q : ¬ W a k) : h'.2.2.1 a k = h.2.2.1 a k := (f.1 a k q).2
theorem tn_c (p : Nat) : ((p : Int)).toNat = p := Int.toNat_natCast p
theorem fr_r {W : Nat → Nat → Prop} {h0 h h1 : ah_T} (f : fr W h0 h) (e : h1 = st_r h 3 6 (some 1)) : fr W h0 h1 := by
  subst e
  exact ⟨f.1, fun _ => by simp [st_r, up2]⟩

/-! ===== tokens: what a text is made of (a spec of our own) ===== -/
def isSm (c : Int) : Prop := 97 ≤ c ∧ c ≤ 122
def isDg (c : Int) : Prop := 48 ≤ c ∧ c ≤ 57
/-- whether a remark is open behind k bytes from p on -/
def rk (T : Nat → Int) (p : Nat) : Nat → Prop
  | 0 => False
  | k + 1 => T (p + k) ≠ 10 ∧ (rk T p k ∨ T (p + k) = 37)
def skb (T : Nat → Int) (p k : Nat) : Prop := rk T p k ∨ T (p + k) = 9 ∨ T (p + k) = 10 ∨ T (p + k) = 13 ∨ T (p + k) = 32 ∨ T (p + k) = 37
def Skp (T : Nat → Int) (n p q : Nat) : Prop := (p ≤ q ∧ q ≤ n) ∧ (∀ k, p + k < q → skb T p k) ∧ (q < n → ¬ skb T p (q - p))
theorem Skp_d {T : Nat → Int} {n p q r : Nat} (h1 : Skp T n p q) (h2 : Skp T n p r) : q = r := by
  obtain ⟨⟨a1, a2⟩, a3, a4⟩ := h1
  obtain ⟨⟨b1, b2⟩, b3, b4⟩ := h2
  rcases Nat.lt_trichotomy q r with h | h | h
  · exact absurd (b3 (q - p) (by omega)) (a4 (by omega))
  · exact h
  · exact absurd (a3 (r - p) (by omega)) (b4 (by omega))
/-- a byte; -1 behind the end -/
def tb (T : Nat → Int) (n k : Nat) : Int := if k < n then T k else -1
theorem tb_in {T : Nat → Int} {n k : Nat} (h : k < n) : tb T n k = T k := if_pos h
theorem tb_out {T : Nat → Int} {n k : Nat} (h : n ≤ k) : tb T n k = -1 := if_neg (by omega)
def wh (b : Int) : Int := if b = 65 then 9 else if b = 66 then 11 else if b = 67 then 0 else if b = 68 then 2 else if b = 69 then 4 else if b = 70 then 5 else 7
def sw (b : Int) : Int := if b ≤ 66 then b - 60 else b - 67
def mk (T : Nat → Int) (n p : Nat) : Nat := if tb T n (p + 1) = 35 ∨ tb T n (p + 1) = 98 then (if tb T n (p + 2) = tb T n (p + 1) then 2 else 1) else 0
def PitR (T : Nat → Int) (n p : Nat) (kd v st : Int) (q : Nat) : Prop :=
  ((48 ≤ tb T n (p + 1 + mk T n p) ∧ tb T n (p + 1 + mk T n p) ≤ 56) → kd = 258 ∧ v = 12 * (tb T n (p + 1 + mk T n p) - 48) + wh (T p) + (if tb T n (p + 1) = 35 then (mk T n p : Int) else -(mk T n p : Int)) ∧ st = 7 * (tb T n (p + 1 + mk T n p) - 48) + sw (T p) ∧ q = p + 2 + mk T n p) ∧
  (¬ (48 ≤ tb T n (p + 1 + mk T n p) ∧ tb T n (p + 1 + mk T n p) ≤ 56) → kd = 257)
def RunR (f : Int → Prop) (T : Nat → Int) (n p q : Nat) : Prop := (p ≤ q ∧ q ≤ n) ∧ (∀ j, p ≤ j → j < q → f (T j)) ∧ (q < n → ¬ f (T q))
theorem RunR_d {f : Int → Prop} {T : Nat → Int} {n p q r : Nat} (h1 : RunR f T n p q) (h2 : RunR f T n p r) : q = r := by
  obtain ⟨⟨a1, a2⟩, a3, a4⟩ := h1
  obtain ⟨⟨b1, b2⟩, b3, b4⟩ := h2
  rcases Nat.lt_trichotomy q r with h | h | h
  · exact absurd (b3 q a1 h) (a4 (by omega))
  · exact h
  · exact absurd (a3 r b1 h) (b4 (by omega))
def nvl (T : Nat → Int) (p : Nat) : Nat → Int
  | 0 => 0
  | k + 1 => 10 * nvl T p k + (T (p + k) - 48)
def lvl (T : Nat → Int) (p : Nat) : Nat → Int
  | 0 => 0
  | k + 1 => 256 * lvl T p k + T (p + k)
/-- the kind of a NAME or WORD by its letters -/
def knm (x : Int) : Int := if x = 1953066341 then 261 else if x = 508675318629 then 262 else if x = 1818848869 then 263 else if x = 1920298085 then 264 else if x = 7499639 then 265 else if x = 114 then 266 else 260
def NamR (T : Nat → Int) (n p : Nat) (kd v : Int) (q : Nat) : Prop := RunR isSm T n p q ∧ (8 < q - p → kd = 257) ∧ (q - p ≤ 8 → kd = knm (lvl T p (q - p)) ∧ v = lvl T p (q - p))
def NumR (T : Nat → Int) (n p : Nat) (kd v : Int) (q : Nat) : Prop := RunR isDg T n p q ∧ (4 < q - p → kd = 257) ∧ (q - p ≤ 4 → kd = 259 ∧ v = nvl T p (q - p))
def isSg (b : Int) : Prop := b = 59 ∨ b = 58 ∨ b = 47 ∨ b = 124 ∨ b = 91 ∨ b = 93 ∨ b = 123 ∨ b = 125 ∨ b = 60 ∨ b = 62 ∨ b = 61 ∨ b = 46 ∨ b = 126
def SgnR (b : Int) (p : Nat) (kd : Int) (q : Nat) : Prop := q = p + 1 ∧ (isSg b → kd = b) ∧ (¬ isSg b → kd = 257)
/-- the token that begins at p, before the end -/
def TokR (T : Nat → Int) (n p : Nat) (kd v st : Int) (q : Nat) : Prop :=
  ((65 ≤ T p ∧ T p ≤ 71) → PitR T n p kd v st q) ∧ (isSm (T p) → NamR T n p kd v q) ∧ (isDg (T p) → NumR T n p kd v q) ∧ (¬ (65 ≤ T p ∧ T p ≤ 71) → ¬ isSm (T p) → ¬ isDg (T p) → SgnR (T p) p kd q)
/-- kinds that a text goes on behind -/
def gk (kd : Int) : Prop := kd ≠ 256 ∧ kd ≠ 257
theorem lvl_b {T : Nat → Int} {p : Nat} : ∀ k : Nat, (∀ j, p ≤ j → j < p + k → isSm (T j)) → 0 ≤ lvl T p k ∧ lvl T p k ≤ 123 * 256 ^ (k - 1) - 1 ∧ (1 ≤ k → 97 * 256 ^ (k - 1) ≤ lvl T p k)
  | 0, _ => by simp [lvl]
  | k + 1, h => by
    obtain ⟨h1, h2, h3⟩ := lvl_b k (fun j a b => h j a (by omega))
    have hl := h (p + k) (by omega) (by omega)
    unfold isSm at hl
    rw [lvl]
    cases k with
    | zero =>
      have e0 : lvl T p 0 = 0 := rfl
      rw [Nat.add_zero] at hl ⊢
      rw [e0]
      have e1 : (256 : Int) ^ (0 + 1 - 1) = 1 := rfl
      rw [e1]
      omega
    | succ m =>
      have h4 := h3 (by omega)
      have e : (256 : Int) ^ (m + 1 + 1 - 1) = 256 * 256 ^ (m + 1 - 1) := by
        rw [show m + 1 + 1 - 1 = (m + 1 - 1) + 1 by omega, Int.pow_succ]; omega
      rw [e]
      generalize (256 : Int) ^ (m + 1 - 1) = w at *
      omega
/-- tokens end behind where they begin -/
theorem Tok_lt {T : Nat → Int} {n p q : Nat} {kd v st : Int} (h : TokR T n p kd v st q) (hp : p < n) (hk : kd ≠ 257) : p < q ∧ q ≤ n := by
  obtain ⟨h1, h2, h3, h4⟩ := h
  by_cases c1 : 65 ≤ T p ∧ T p ≤ 71
  · obtain ⟨q1, q2⟩ := h1 c1
    by_cases d : 48 ≤ tb T n (p + 1 + mk T n p) ∧ tb T n (p + 1 + mk T n p) ≤ 56
    · obtain ⟨-, -, -, e⟩ := q1 d
      have : p + 1 + mk T n p < n := by
        rcases Nat.lt_or_ge (p + 1 + mk T n p) n with h | h
        · exact h
        · rw [tb_out h] at d; omega
      omega
    · exact absurd (q2 d) hk
  · by_cases c2 : isSm (T p)
    · obtain ⟨⟨⟨r1, r2⟩, r3, r4⟩, -, -⟩ := h2 c2
      refine ⟨?_, r2⟩
      rcases Nat.lt_or_ge p q with h | h
      · exact h
      · have : q = p := by omega
        subst this; exact absurd c2 (r4 hp)
    · by_cases c3 : isDg (T p)
      · obtain ⟨⟨⟨r1, r2⟩, r3, r4⟩, -, -⟩ := h3 c3
        refine ⟨?_, r2⟩
        rcases Nat.lt_or_ge p q with h | h
        · exact h
        · have : q = p := by omega
          subst this; exact absurd c3 (r4 hp)
      · obtain ⟨e, -, -⟩ := h4 c1 c2 c3
        omega
theorem Tok_d {T : Nat → Int} {n p q q' : Nat} {kd v st kd' v' st' : Int} (h : TokR T n p kd v st q) (h' : TokR T n p kd' v' st' q') : kd = kd' ∧ (kd ≠ 257 → q = q' ∧ ((kd = 258 ∨ kd = 259 ∨ kd = 260) → v = v') ∧ (kd = 258 → st = st')) := by
  obtain ⟨h1, h2, h3, h4⟩ := h
  obtain ⟨h1', h2', h3', h4'⟩ := h'
  by_cases c1 : 65 ≤ T p ∧ T p ≤ 71
  · obtain ⟨q1, q2⟩ := h1 c1
    obtain ⟨q1', q2'⟩ := h1' c1
    by_cases d : 48 ≤ tb T n (p + 1 + mk T n p) ∧ tb T n (p + 1 + mk T n p) ≤ 56
    · obtain ⟨a1, a2, a3, a4⟩ := q1 d
      obtain ⟨b1, b2, b3, b4⟩ := q1' d
      exact ⟨by rw [a1, b1], fun _ => ⟨by rw [a4, b4], fun _ => by rw [a2, b2], fun _ => by rw [a3, b3]⟩⟩
    · have e1 := q2 d
      have e2 := q2' d
      exact ⟨by rw [e1, e2], fun z => absurd e1 z⟩
  · by_cases c2 : isSm (T p)
    · obtain ⟨r, s1, s2⟩ := h2 c2
      obtain ⟨r', s1', s2'⟩ := h2' c2
      have e := RunR_d r r'
      subst e
      by_cases c : 8 < q - p
      · have e1 := s1 c
        have e2 := s1' c
        exact ⟨by rw [e1, e2], fun z => absurd e1 z⟩
      · obtain ⟨a1, a2⟩ := s2 (by omega)
        obtain ⟨b1, b2⟩ := s2' (by omega)
        refine ⟨by rw [a1, b1], fun _ => ⟨rfl, fun _ => by rw [a2, b2], fun z => ?_⟩⟩
        rw [a1] at z
        unfold knm at z
        repeat' split at z
        all_goals omega
    · by_cases c3 : isDg (T p)
      · obtain ⟨r, s1, s2⟩ := h3 c3
        obtain ⟨r', s1', s2'⟩ := h3' c3
        have e := RunR_d r r'
        subst e
        by_cases c : 4 < q - p
        · have e1 := s1 c
          have e2 := s1' c
          exact ⟨by rw [e1, e2], fun z => absurd e1 z⟩
        · obtain ⟨a1, a2⟩ := s2 (by omega)
          obtain ⟨b1, b2⟩ := s2' (by omega)
          exact ⟨by rw [a1, b1], fun _ => ⟨rfl, fun _ => by rw [a2, b2], fun z => by omega⟩⟩
      · obtain ⟨a1, a2, a3⟩ := h4 c1 c2 c3
        obtain ⟨b1, b2, b3⟩ := h4' c1 c2 c3
        by_cases c : isSg (T p)
        · have e1 := a2 c
          have e2 := b2 c
          refine ⟨by rw [e1, e2], fun _ => ⟨by rw [a1, b1], fun z => ?_, fun z => ?_⟩⟩
          · rw [e1] at z; unfold isSg at c; omega
          · rw [e1] at z; unfold isSg at c; omega
        · have e1 := a3 c
          have e2 := b3 c
          exact ⟨by rw [e1, e2], fun z => absurd e1 z⟩
/-- a table of tokens: kinds, places, values, steps -/
abbrev tk_T : Type := (Nat → Int) × (Nat → Int) × (Nat → Int) × (Nat → Int)
abbrev tK (t : tk_T) : Nat → Int := t.1
abbrev tP (t : tk_T) : Nat → Int := t.2.1
abbrev tV' (t : tk_T) : Nat → Int := t.2.2.1
abbrev tS (t : tk_T) : Nat → Int := t.2.2.2
/-- token i of the table stands at p, and the text goes on at q -/
def TkI (T : Nat → Int) (n : Nat) (t : tk_T) (i p q : Nat) : Prop := tP t i = (p : Int) ∧ p ≤ n ∧ (p = n → tK t i = 256 ∧ q = n) ∧ (p < n → TokR T n p (tK t i) (tV' t i) (tS t i) q ∧ tK t i ≠ 256)
/-- the table tells the text's first m tokens -/
def Tkn (T : Nat → Int) (n : Nat) (t : tk_T) (m : Nat) : Prop := ∃ a b : Nat → Nat, Skp T n 0 (a 0) ∧ (∀ i, i < m → TkI T n t i (a i) (b i)) ∧ ∀ i, i + 1 < m → gk (tK t i) ∧ Skp T n (b i) (a (i + 1))
