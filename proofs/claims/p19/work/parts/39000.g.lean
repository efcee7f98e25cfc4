/-! ===== verification conditions: what stands on every heap ===== -/
def hb (s : Nat) (h : ah_T) : Prop :=
  h.1 = sh_L ∧ isS s ∧ h.2.2.2 0 3 = some (97 - s) ∧ h.2.2.2 2 5 = some s ∧ (h.2.2.2 3 6 = some 8 ∨ h.2.2.2 3 6 = some 1) ∧ (∀ q ∈ rf_L, h.2.2.2 q.1 q.2.1 = some q.2.2) ∧ (∀ q ∈ mf_L, h.2.2.2 170 q.1 = some q.2)
theorem hb_s {s : Nat} {h : ah_T} (hx : hb s h) {a : Nat} {v : Nat × Nat} (hv : sh_L[a]? = some v) : h.1[a]? = some v := by rw [hx.1]; exact hv
theorem hb_r {s : Nat} {h : ah_T} (hx : hb s h) {a k b : Nat} (hm : (a, k, b) ∈ rf_L) : h.2.2.2 a k = some b := hx.2.2.2.2.2.1 _ hm
theorem hb_m {s : Nat} {h : ah_T} (hx : hb s h) {k b : Nat} (hm : (k, b) ∈ mf_L) : h.2.2.2 170 k = some b := hx.2.2.2.2.2.2 _ hm
theorem hb_i {s : Nat} {h h1 : ah_T} {a k : Nat} {z : Int} (hx : hb s h) (e : h1 = st_i h a k z) : hb s h1 := by subst e; exact hx
theorem hb_l {s : Nat} {h h1 : ah_T} {a k : Nat} {z : Int} (hx : hb s h) (e : h1 = st_l h a k z) : hb s h1 := by subst e; exact hx
theorem hb_t {s : Nat} {h h1 : ah_T} (hx : hb s h) (e : h1 = st_r h 3 6 (some 1)) : hb s h1 := by
  subst e
  obtain ⟨x1, x2, x3, x4, x5, x6, x7⟩ := hx
  have key : ∀ a k, ¬ (a = 3 ∧ k = 6) → (st_r h 3 6 (some 1)).2.2.2 a k = h.2.2.2 a k := fun a k q => up2_o q
  refine ⟨x1, x2, (key 0 3 (by decide)).trans x3, (key 2 5 (by decide)).trans x4, Or.inr (by simp [st_r, up2]), fun q hq => ?_, fun q hq => ?_⟩
  · have h9 : ∀ q ∈ rf_L, ¬ (q.1 = 3 ∧ q.2.1 = 6) := by decide +kernel
    rw [key _ _ (h9 q hq)]
    exact x6 q hq
  · rw [key _ _ (fun w => absurd w.1 (by decide))]
    exact x7 q hq
theorem A_hn {G : cx_T} {R : Room} {M : mr_T} {cu su pc : Nat} {L : List (Option av_T)} {st : List av_T} {h : ah_T} {Q : Option av_T → ah_T → Prop} (k : ∀ h', h' = h → aw G R M cu su pc L st h' Q) : aw G R M cu su pc L st h Q := k h rfl
theorem mm_i {h h1 : ah_T} {a k b j : Nat} {z : Int} (e : h1 = st_i h a k z) (hn : ¬ (b = a ∧ j = k)) : h1.2.1 b j = h.2.1 b j := by subst e; exact up2_o hn
theorem mm_io {h h1 : ah_T} {a k b j : Nat} {z : Int} (e : h1 = st_i h a k z) : h1.2.2.1 b j = h.2.2.1 b j := by subst e; rfl
theorem mm_l {h h1 : ah_T} {a k b j : Nat} {z : Int} (e : h1 = st_l h a k z) (hn : ¬ (b = a ∧ j = k)) : h1.2.2.1 b j = h.2.2.1 b j := by subst e; exact up2_o hn
theorem mm_lo {h h1 : ah_T} {a k b j : Nat} {z : Int} (e : h1 = st_l h a k z) : h1.2.1 b j = h.2.1 b j := by subst e; rfl
theorem mv_i {h h1 : ah_T} {a k : Nat} {z : Int} (e : h1 = st_i h a k z) : h1.2.1 a k = z := by subst e; exact up2_at
theorem mv_l {h h1 : ah_T} {a k : Nat} {z : Int} (e : h1 = st_l h a k z) : h1.2.2.1 a k = z := by subst e; exact up2_at
theorem gi_i (h : ah_T) (a k : Nat) (z : Int) (b j : Nat) : (st_i h a k z).2.1 b j = if b = a ∧ j = k then z else h.2.1 b j := rfl
theorem gi_l (h : ah_T) (a k : Nat) (z : Int) (b j : Nat) : (st_l h a k z).2.1 b j = h.2.1 b j := rfl
theorem gl_l (h : ah_T) (a k : Nat) (z : Int) (b j : Nat) : (st_l h a k z).2.2.1 b j = if b = a ∧ j = k then z else h.2.2.1 b j := rfl
theorem gl_i (h : ah_T) (a k : Nat) (z : Int) (b j : Nat) : (st_i h a k z).2.2.1 b j = h.2.2.1 b j := rfl
theorem gi_r (h : ah_T) (a k : Nat) (z : Option Nat) (b j : Nat) : (st_r h a k z).2.1 b j = h.2.1 b j := rfl
theorem gl_r (h : ah_T) (a k : Nat) (z : Option Nat) (b j : Nat) : (st_r h a k z).2.2.1 b j = h.2.2.1 b j := rfl
theorem gr_i (h : ah_T) (a k : Nat) (z : Int) : (st_i h a k z).2.2.2 = h.2.2.2 := rfl
theorem gr_l (h : ah_T) (a k : Nat) (z : Int) : (st_l h a k z).2.2.2 = h.2.2.2 := rfl
theorem gr_r (h : ah_T) (a k : Nat) (z : Option Nat) (b j : Nat) : (st_r h a k z).2.2.2 b j = if b = a ∧ j = k then z else h.2.2.2 b j := rfl
theorem hs_V {s v : Nat} {h : ah_T} (hx : hb s h) (hv : isV v) : h.1[v]? = some (10 + 4, 17) := by
  refine hb_s hx ?_
  rcases hv with rfl | rfl | rfl | rfl | rfl | rfl | rfl | rfl <;> rfl
theorem hs_V_0 {s v : Nat} {h : ah_T} (hx : hb s h) (hv : isV v) : h.1[v + 1]? = some (0, 300) := by
  refine hb_s hx ?_
  rcases hv with rfl | rfl | rfl | rfl | rfl | rfl | rfl | rfl <;> rfl
theorem hr_V_0 {s v : Nat} {h : ah_T} (hx : hb s h) (hv : isV v) : h.2.2.2 v 0 = some (v + 1) := by
  rcases hv with rfl | rfl | rfl | rfl | rfl | rfl | rfl | rfl <;> exact hb_r hx (by decide)
theorem hs_V_1 {s v : Nat} {h : ah_T} (hx : hb s h) (hv : isV v) : h.1[v + 2]? = some (0, 300) := by
  refine hb_s hx ?_
  rcases hv with rfl | rfl | rfl | rfl | rfl | rfl | rfl | rfl <;> rfl
theorem hr_V_1 {s v : Nat} {h : ah_T} (hx : hb s h) (hv : isV v) : h.2.2.2 v 1 = some (v + 2) := by
  rcases hv with rfl | rfl | rfl | rfl | rfl | rfl | rfl | rfl <;> exact hb_r hx (by decide)
theorem hs_V_3 {s v : Nat} {h : ah_T} (hx : hb s h) (hv : isV v) : h.1[v + 3]? = some (0, 301) := by
  refine hb_s hx ?_
  rcases hv with rfl | rfl | rfl | rfl | rfl | rfl | rfl | rfl <;> rfl
theorem hr_V_3 {s v : Nat} {h : ah_T} (hx : hb s h) (hv : isV v) : h.2.2.2 v 3 = some (v + 3) := by
  rcases hv with rfl | rfl | rfl | rfl | rfl | rfl | rfl | rfl <;> exact hb_r hx (by decide)
theorem hs_V_4 {s v : Nat} {h : ah_T} (hx : hb s h) (hv : isV v) : h.1[v + 4]? = some (0, 300) := by
  refine hb_s hx ?_
  rcases hv with rfl | rfl | rfl | rfl | rfl | rfl | rfl | rfl <;> rfl
theorem hr_V_4 {s v : Nat} {h : ah_T} (hx : hb s h) (hv : isV v) : h.2.2.2 v 4 = some (v + 4) := by
  rcases hv with rfl | rfl | rfl | rfl | rfl | rfl | rfl | rfl <;> exact hb_r hx (by decide)
theorem hs_V_5 {s v : Nat} {h : ah_T} (hx : hb s h) (hv : isV v) : h.1[v + 5]? = some (0, 300) := by
  refine hb_s hx ?_
  rcases hv with rfl | rfl | rfl | rfl | rfl | rfl | rfl | rfl <;> rfl
theorem hr_V_5 {s v : Nat} {h : ah_T} (hx : hb s h) (hv : isV v) : h.2.2.2 v 5 = some (v + 5) := by
  rcases hv with rfl | rfl | rfl | rfl | rfl | rfl | rfl | rfl <;> exact hb_r hx (by decide)
theorem hs_V_6 {s v : Nat} {h : ah_T} (hx : hb s h) (hv : isV v) : h.1[v + 6]? = some (2, 300) := by
  refine hb_s hx ?_
  rcases hv with rfl | rfl | rfl | rfl | rfl | rfl | rfl | rfl <;> rfl
theorem hr_V_6 {s v : Nat} {h : ah_T} (hx : hb s h) (hv : isV v) : h.2.2.2 v 6 = some (v + 6) := by
  rcases hv with rfl | rfl | rfl | rfl | rfl | rfl | rfl | rfl <;> exact hb_r hx (by decide)
theorem hs_V_8 {s v : Nat} {h : ah_T} (hx : hb s h) (hv : isV v) : h.1[v + 7]? = some (0, 300) := by
  refine hb_s hx ?_
  rcases hv with rfl | rfl | rfl | rfl | rfl | rfl | rfl | rfl <;> rfl
theorem hr_V_8 {s v : Nat} {h : ah_T} (hx : hb s h) (hv : isV v) : h.2.2.2 v 8 = some (v + 7) := by
  rcases hv with rfl | rfl | rfl | rfl | rfl | rfl | rfl | rfl <;> exact hb_r hx (by decide)
theorem hs_V_9 {s v : Nat} {h : ah_T} (hx : hb s h) (hv : isV v) : h.1[v + 8]? = some (0, 300) := by
  refine hb_s hx ?_
  rcases hv with rfl | rfl | rfl | rfl | rfl | rfl | rfl | rfl <;> rfl
theorem hr_V_9 {s v : Nat} {h : ah_T} (hx : hb s h) (hv : isV v) : h.2.2.2 v 9 = some (v + 8) := by
  rcases hv with rfl | rfl | rfl | rfl | rfl | rfl | rfl | rfl <;> exact hb_r hx (by decide)
theorem hs_V_10 {s v : Nat} {h : ah_T} (hx : hb s h) (hv : isV v) : h.1[v + 9]? = some (1, 301) := by
  refine hb_s hx ?_
  rcases hv with rfl | rfl | rfl | rfl | rfl | rfl | rfl | rfl <;> rfl
theorem hr_V_10 {s v : Nat} {h : ah_T} (hx : hb s h) (hv : isV v) : h.2.2.2 v 10 = some (v + 9) := by
  rcases hv with rfl | rfl | rfl | rfl | rfl | rfl | rfl | rfl <;> exact hb_r hx (by decide)
theorem hs_V_11 {s v : Nat} {h : ah_T} (hx : hb s h) (hv : isV v) : h.1[v + 10]? = some (1, 301) := by
  refine hb_s hx ?_
  rcases hv with rfl | rfl | rfl | rfl | rfl | rfl | rfl | rfl <;> rfl
theorem hr_V_11 {s v : Nat} {h : ah_T} (hx : hb s h) (hv : isV v) : h.2.2.2 v 11 = some (v + 10) := by
  rcases hv with rfl | rfl | rfl | rfl | rfl | rfl | rfl | rfl <;> exact hb_r hx (by decide)
theorem hs_V_12 {s v : Nat} {h : ah_T} (hx : hb s h) (hv : isV v) : h.1[v + 11]? = some (1, 300) := by
  refine hb_s hx ?_
  rcases hv with rfl | rfl | rfl | rfl | rfl | rfl | rfl | rfl <;> rfl
theorem hr_V_12 {s v : Nat} {h : ah_T} (hx : hb s h) (hv : isV v) : h.2.2.2 v 12 = some (v + 11) := by
  rcases hv with rfl | rfl | rfl | rfl | rfl | rfl | rfl | rfl <;> exact hb_r hx (by decide)
theorem hs_V_13 {s v : Nat} {h : ah_T} (hx : hb s h) (hv : isV v) : h.1[v + 12]? = some (1, 300) := by
  refine hb_s hx ?_
  rcases hv with rfl | rfl | rfl | rfl | rfl | rfl | rfl | rfl <;> rfl
theorem hr_V_13 {s v : Nat} {h : ah_T} (hx : hb s h) (hv : isV v) : h.2.2.2 v 13 = some (v + 12) := by
  rcases hv with rfl | rfl | rfl | rfl | rfl | rfl | rfl | rfl <;> exact hb_r hx (by decide)
theorem hs_V_15 {s v : Nat} {h : ah_T} (hx : hb s h) (hv : isV v) : h.1[v + 13]? = some (0, 102) := by
  refine hb_s hx ?_
  rcases hv with rfl | rfl | rfl | rfl | rfl | rfl | rfl | rfl <;> rfl
theorem hr_V_15 {s v : Nat} {h : ah_T} (hx : hb s h) (hv : isV v) : h.2.2.2 v 15 = some (v + 13) := by
  rcases hv with rfl | rfl | rfl | rfl | rfl | rfl | rfl | rfl <;> exact hb_r hx (by decide)
theorem hs_S {s v : Nat} {h : ah_T} (hx : hb s h) (hv : isS v) : h.1[v]? = some (6 + 4, 13) := by
  refine hb_s hx ?_
  rcases hv with rfl | rfl <;> rfl
theorem hs_S_0 {s v : Nat} {h : ah_T} (hx : hb s h) (hv : isS v) : h.1[v + 1]? = some (3, 4) := by
  refine hb_s hx ?_
  rcases hv with rfl | rfl <;> rfl
theorem hr_S_0 {s v : Nat} {h : ah_T} (hx : hb s h) (hv : isS v) : h.2.2.2 v 0 = some (v + 1) := by
  rcases hv with rfl | rfl <;> exact hb_r hx (by decide)
theorem hs_S_5 {s v : Nat} {h : ah_T} (hx : hb s h) (hv : isS v) : h.1[v + 2]? = some (0, 8) := by
  refine hb_s hx ?_
  rcases hv with rfl | rfl <;> rfl
theorem hr_S_5 {s v : Nat} {h : ah_T} (hx : hb s h) (hv : isS v) : h.2.2.2 v 5 = some (v + 2) := by
  rcases hv with rfl | rfl <;> exact hb_r hx (by decide)
theorem hs_S_7 {s v : Nat} {h : ah_T} (hx : hb s h) (hv : isS v) : h.1[v + 3]? = some (0, 24) := by
  refine hb_s hx ?_
  rcases hv with rfl | rfl <;> rfl
theorem hr_S_7 {s v : Nat} {h : ah_T} (hx : hb s h) (hv : isS v) : h.2.2.2 v 7 = some (v + 3) := by
  rcases hv with rfl | rfl <;> exact hb_r hx (by decide)
theorem hs_S_8 {s v : Nat} {h : ah_T} (hx : hb s h) (hv : isS v) : h.1[v + 4]? = some (0, 24) := by
  refine hb_s hx ?_
  rcases hv with rfl | rfl <;> rfl
theorem hr_S_8 {s v : Nat} {h : ah_T} (hx : hb s h) (hv : isS v) : h.2.2.2 v 8 = some (v + 4) := by
  rcases hv with rfl | rfl <;> exact hb_r hx (by decide)
theorem hs_S_9 {s v : Nat} {h : ah_T} (hx : hb s h) (hv : isS v) : h.1[v + 5]? = some (0, 24) := by
  refine hb_s hx ?_
  rcases hv with rfl | rfl <;> rfl
theorem hr_S_9 {s v : Nat} {h : ah_T} (hx : hb s h) (hv : isS v) : h.2.2.2 v 9 = some (v + 5) := by
  rcases hv with rfl | rfl <;> exact hb_r hx (by decide)
theorem hs_S_11 {s v : Nat} {h : ah_T} (hx : hb s h) (hv : isS v) : h.1[v + 6]? = some (0, 12) := by
  refine hb_s hx ?_
  rcases hv with rfl | rfl <;> rfl
theorem hr_S_11 {s v : Nat} {h : ah_T} (hx : hb s h) (hv : isS v) : h.2.2.2 v 11 = some (v + 6) := by
  rcases hv with rfl | rfl <;> exact hb_r hx (by decide)
theorem hr_Sv {s t : Nat} {h : ah_T} (hx : hb s h) (ht : isS t) {i : Int} (h0 : 0 ≤ i) (h1 : i < (4 : Nat)) : h.2.2.2 (t + 1) i.toNat = some (t + 7 + 14 * i.toNat) := by
  have hi : i = 0 ∨ i = 1 ∨ i = 2 ∨ i = 3 := by omega
  rcases ht with rfl | rfl <;> rcases hi with rfl | rfl | rfl | rfl
  · exact hb_r hx (by decide)
  · exact hb_r hx (by decide)
  · exact hb_r hx (by decide)
  · exact hb_r hx (by decide)
  · exact hb_r hx (by decide)
  · exact hb_r hx (by decide)
  · exact hb_r hx (by decide)
  · exact hb_r hx (by decide)
theorem iV_n {t : Nat} (ht : isS t) {i : Int} (h0 : 0 ≤ i) (h1 : i < (4 : Nat)) : isV (t + 7 + 14 * i.toNat) := by
  unfold isS at ht
  unfold isV
  omega
theorem con_mono {G : cx_T} {d mc ms : Nat} {M : mr_T} {As : List av_T} {h : ah_T} {Q Q' : Option av_T → ah_T → Prop} (H : con G d mc ms M As h Q) (hq : ∀ r h', Q r h' → Q' r h') : con G d mc ms M As h Q' := by
  intro hn
  have H1 := H hn
  unfold Met MetFree at *
  intro p e hp hf hc s m args below hs ha hP hK
  obtain ⟨n, o, h1, h2, h3, ⟨h4, h5⟩, h6⟩ := H1 p e hp hf hc s m args below hs ha hP hK
  obtain ⟨r, h', q1, q2, q3, q4, q5⟩ := h4
  exact ⟨n, o, h1, h2, h3, ⟨⟨r, h', q1, q2, hq r h' q3, q4, q5⟩, h5⟩, h6⟩

/-! ===== what a method leaves as it was ===== -/
def fr (W : Nat → Nat → Prop) (h h' : ah_T) : Prop := (∀ a k, ¬ W a k → h'.2.1 a k = h.2.1 a k ∧ h'.2.2.1 a k = h.2.2.1 a k) ∧ (h.2.2.2 3 6 = some 1 → h'.2.2.2 3 6 = some 1)
theorem fr_0 {W : Nat → Nat → Prop} {h : ah_T} : fr W h h := ⟨fun _ _ _ => ⟨rfl, rfl⟩, id⟩
theorem fr_i {W : Nat → Nat → Prop} {h0 h h1 : ah_T} {a k : Nat} {z : Int} (f : fr W h0 h) (e : h1 = st_i h a k z) (hW : W a k) : fr W h0 h1 := by
  subst e
  refine ⟨fun b j hb => ⟨?_, (f.1 b j hb).2⟩, f.2⟩
  rw [gi_i, if_neg (fun q => hb (by rw [q.1, q.2]; exact hW))]
  exact (f.1 b j hb).1
theorem fr_l {W : Nat → Nat → Prop} {h0 h h1 : ah_T} {a k : Nat} {z : Int} (f : fr W h0 h) (e : h1 = st_l h a k z) (hW : W a k) : fr W h0 h1 := by
  subst e
  refine ⟨fun b j hb => ⟨(f.1 b j hb).1, ?_⟩, f.2⟩
  rw [gl_l, if_neg (fun q => hb (by rw [q.1, q.2]; exact hW))]
  exact (f.1 b j hb).2
theorem fr_t {W W' : Nat → Nat → Prop} {h0 h h1 : ah_T} (f : fr W h0 h) (g : fr W' h h1) (hs : ∀ a k, W' a k → W a k) : fr W h0 h1 :=
  ⟨fun a k q => ⟨(g.1 a k (fun w => q (hs a k w))).1.trans (f.1 a k q).1, (g.1 a k (fun w => q (hs a k w))).2.trans (f.1 a k q).2⟩, fun q => g.2 (f.2 q)⟩
theorem fr_w {W W' : Nat → Nat → Prop} {h h1 : ah_T} (g : fr W' h h1) (hs : ∀ a k, W' a k → W a k) : fr W h h1 := fr_t fr_0 g hs
theorem fr_g {W : Nat → Nat → Prop} {h h' : ah_T} (f : fr W h h') {a k : Nat} (q : ¬ W a k) : h'.2.1 a k = h.2.1 a k := (f.1 a k q).1
theorem fr_gl {W : Nat → Nat → Prop} {h h' : ah_T} (f : fr W h h') {a k : Nat} (q : ¬ W a k) : h'.2.2.1 a k = h.2.2.1 a k := (f.1 a k q).2
theorem tn_c (p : Nat) : ((p : Int)).toNat = p := Int.toNat_natCast p
theorem fr_r {W : Nat → Nat → Prop} {h0 h h1 : ah_T} (f : fr W h0 h) (e : h1 = st_r h 3 6 (some 1)) : fr W h0 h1 := by
  subst e
  exact ⟨f.1, fun _ => by simp [st_r, up2]⟩

/-! ===== tokens: what a text is made of (a spec of our own) ===== -/
def isSm (c : Int) : Prop := 97 ≤ c ∧ c ≤ 122
def isDg (c : Int) : Prop := 48 ≤ c ∧ c ≤ 57
/-- whether a remark is open behind k bytes from p on -/
def rk (T : Nat → Int) (p : Nat) : Nat → Prop
  | 0 => False
  | k + 1 => T (p + k) ≠ 10 ∧ (rk T p k ∨ T (p + k) = 37)
def skb (T : Nat → Int) (p k : Nat) : Prop := rk T p k ∨ T (p + k) = 9 ∨ T (p + k) = 10 ∨ T (p + k) = 13 ∨ T (p + k) = 32 ∨ T (p + k) = 37
def Skp (T : Nat → Int) (n p q : Nat) : Prop := (p ≤ q ∧ q ≤ n) ∧ (∀ k, p + k < q → skb T p k) ∧ (q < n → ¬ skb T p (q - p))
theorem Skp_d {T : Nat → Int} {n p q r : Nat} (h1 : Skp T n p q) (h2 : Skp T n p r) : q = r := by
  obtain ⟨⟨a1, a2⟩, a3, a4⟩ := h1
  obtain ⟨⟨b1, b2⟩, b3, b4⟩ := h2
  rcases Nat.lt_trichotomy q r with h | h | h
  · exact absurd (b3 (q - p) (by omega)) (a4 (by omega))
  · exact h
  · exact absurd (a3 (r - p) (by omega)) (b4 (by omega))
/-- a byte; -1 behind the end -/
def tb (T : Nat → Int) (n k : Nat) : Int := if k < n then T k else -1
theorem tb_in {T : Nat → Int} {n k : Nat} (h : k < n) : tb T n k = T k := if_pos h
theorem tb_out {T : Nat → Int} {n k : Nat} (h : n ≤ k) : tb T n k = -1 := if_neg (by omega)
def wh (b : Int) : Int := if b = 65 then 9 else if b = 66 then 11 else if b = 67 then 0 else if b = 68 then 2 else if b = 69 then 4 else if b = 70 then 5 else 7
def sw (b : Int) : Int := if b ≤ 66 then b - 60 else b - 67
def mk (T : Nat → Int) (n p : Nat) : Nat := if tb T n (p + 1) = 35 ∨ tb T n (p + 1) = 98 then (if tb T n (p + 2) = tb T n (p + 1) then 2 else 1) else 0
def PitR (T : Nat → Int) (n p : Nat) (kd v st : Int) (q : Nat) : Prop :=
  ((48 ≤ tb T n (p + 1 + mk T n p) ∧ tb T n (p + 1 + mk T n p) ≤ 56) → kd = 258 ∧ v = 12 * (tb T n (p + 1 + mk T n p) - 48) + wh (T p) + (if tb T n (p + 1) = 35 then (mk T n p : Int) else -(mk T n p : Int)) ∧ st = 7 * (tb T n (p + 1 + mk T n p) - 48) + sw (T p) ∧ q = p + 2 + mk T n p) ∧
  (¬ (48 ≤ tb T n (p + 1 + mk T n p) ∧ tb T n (p + 1 + mk T n p) ≤ 56) → kd = 257)
def RunR (f : Int → Prop) (T : Nat → Int) (n p q : Nat) : Prop := (p ≤ q ∧ q ≤ n) ∧ (∀ j, p ≤ j → j < q → f (T j)) ∧ (q < n → ¬ f (T q))
theorem RunR_d {f : Int → Prop} {T : Nat → Int} {n p q r : Nat} (h1 : RunR f T n p q) (h2 : RunR f T n p r) : q = r := by
  obtain ⟨⟨a1, a2⟩, a3, a4⟩ := h1
  obtain ⟨⟨b1, b2⟩, b3, b4⟩ := h2
  rcases Nat.lt_trichotomy q r with h | h | h
  · exact absurd (b3 q a1 h) (a4 (by omega))
  · exact h
  · exact absurd (a3 r b1 h) (b4 (by omega))
def nvl (T : Nat → Int) (p : Nat) : Nat → Int
  | 0 => 0
  | k + 1 => 10 * nvl T p k + (T (p + k) - 48)
def lvl (T : Nat → Int) (p : Nat) : Nat → Int
  | 0 => 0
  | k + 1 => 256 * lvl T p k + T (p + k)
/-- the kind of a NAME or WORD by its letters -/
def knm (x : Int) : Int := if x = 1953066341 then 261 else if x = 508675318629 then 262 else if x = 1818848869 then 263 else if x = 1920298085 then 264 else if x = 7499639 then 265 else if x = 114 then 266 else 260
def NamR (T : Nat → Int) (n p : Nat) (kd v : Int) (q : Nat) : Prop := RunR isSm T n p q ∧ (8 < q - p → kd = 257) ∧ (q - p ≤ 8 → kd = knm (lvl T p (q - p)) ∧ v = lvl T p (q - p))
def NumR (T : Nat → Int) (n p : Nat) (kd v : Int) (q : Nat) : Prop := RunR isDg T n p q ∧ (4 < q - p → kd = 257) ∧ (q - p ≤ 4 → kd = 259 ∧ v = nvl T p (q - p))
def isSg (b : Int) : Prop := b = 59 ∨ b = 58 ∨ b = 47 ∨ b = 124 ∨ b = 91 ∨ b = 93 ∨ b = 123 ∨ b = 125 ∨ b = 60 ∨ b = 62 ∨ b = 61 ∨ b = 46 ∨ b = 126
def SgnR (b : Int) (p : Nat) (kd : Int) (q : Nat) : Prop := q = p + 1 ∧ (isSg b → kd = b) ∧ (¬ isSg b → kd = 257)
/-- the token that begins at p, before the end -/
def TokR (T : Nat → Int) (n p : Nat) (kd v st : Int) (q : Nat) : Prop :=
  ((65 ≤ T p ∧ T p ≤ 71) → PitR T n p kd v st q) ∧ (isSm (T p) → NamR T n p kd v q) ∧ (isDg (T p) → NumR T n p kd v q) ∧ (¬ (65 ≤ T p ∧ T p ≤ 71) → ¬ isSm (T p) → ¬ isDg (T p) → SgnR (T p) p kd q)
/-- kinds that a text goes on behind -/
def gk (kd : Int) : Prop := kd ≠ 256 ∧ kd ≠ 257
theorem lvl_b {T : Nat → Int} {p : Nat} : ∀ k : Nat, (∀ j, p ≤ j → j < p + k → isSm (T j)) → 0 ≤ lvl T p k ∧ lvl T p k ≤ 123 * 256 ^ (k - 1) - 1 ∧ (1 ≤ k → 97 * 256 ^ (k - 1) ≤ lvl T p k)
  | 0, _ => by simp [lvl]
  | k + 1, h => by
    obtain ⟨h1, h2, h3⟩ := lvl_b k (fun j a b => h j a (by omega))
    have hl := h (p + k) (by omega) (by omega)
    unfold isSm at hl
    rw [lvl]
    cases k with
    | zero =>
      have e0 : lvl T p 0 = 0 := rfl
      rw [Nat.add_zero] at hl ⊢
      rw [e0]
      have e1 : (256 : Int) ^ (0 + 1 - 1) = 1 := rfl
      rw [e1]
      omega
    | succ m =>
      have h4 := h3 (by omega)
      have e : (256 : Int) ^ (m + 1 + 1 - 1) = 256 * 256 ^ (m + 1 - 1) := by
        rw [show m + 1 + 1 - 1 = (m + 1 - 1) + 1 by omega, Int.pow_succ]; omega
      rw [e]
      generalize (256 : Int) ^ (m + 1 - 1) = w at *
      omega
/-- tokens end behind where they begin -/
theorem Tok_lt {T : Nat → Int} {n p q : Nat} {kd v st : Int} (h : TokR T n p kd v st q) (hp : p < n) (hk : kd ≠ 257) : p < q ∧ q ≤ n := by
  obtain ⟨h1, h2, h3, h4⟩ := h
  by_cases c1 : 65 ≤ T p ∧ T p ≤ 71
  · obtain ⟨q1, q2⟩ := h1 c1
    by_cases d : 48 ≤ tb T n (p + 1 + mk T n p) ∧ tb T n (p + 1 + mk T n p) ≤ 56
    · obtain ⟨-, -, -, e⟩ := q1 d
      have : p + 1 + mk T n p < n := by
        rcases Nat.lt_or_ge (p + 1 + mk T n p) n with h | h
        · exact h
        · rw [tb_out h] at d; omega
      omega
    · exact absurd (q2 d) hk
  · by_cases c2 : isSm (T p)
    · obtain ⟨⟨⟨r1, r2⟩, r3, r4⟩, -, -⟩ := h2 c2
      refine ⟨?_, r2⟩
      rcases Nat.lt_or_ge p q with h | h
      · exact h
      · have : q = p := by omega
        subst this; exact absurd c2 (r4 hp)
    · by_cases c3 : isDg (T p)
      · obtain ⟨⟨⟨r1, r2⟩, r3, r4⟩, -, -⟩ := h3 c3
        refine ⟨?_, r2⟩
        rcases Nat.lt_or_ge p q with h | h
        · exact h
        · have : q = p := by omega
          subst this; exact absurd c3 (r4 hp)
      · obtain ⟨e, -, -⟩ := h4 c1 c2 c3
        omega
theorem Tok_d {T : Nat → Int} {n p q q' : Nat} {kd v st kd' v' st' : Int} (h : TokR T n p kd v st q) (h' : TokR T n p kd' v' st' q') : kd = kd' ∧ (kd ≠ 257 → q = q' ∧ ((kd = 258 ∨ kd = 259 ∨ kd = 260) → v = v') ∧ (kd = 258 → st = st')) := by
  obtain ⟨h1, h2, h3, h4⟩ := h
  obtain ⟨h1', h2', h3', h4'⟩ := h'
  by_cases c1 : 65 ≤ T p ∧ T p ≤ 71
  · obtain ⟨q1, q2⟩ := h1 c1
    obtain ⟨q1', q2'⟩ := h1' c1
    by_cases d : 48 ≤ tb T n (p + 1 + mk T n p) ∧ tb T n (p + 1 + mk T n p) ≤ 56
    · obtain ⟨a1, a2, a3, a4⟩ := q1 d
      obtain ⟨b1, b2, b3, b4⟩ := q1' d
      exact ⟨by rw [a1, b1], fun _ => ⟨by rw [a4, b4], fun _ => by rw [a2, b2], fun _ => by rw [a3, b3]⟩⟩
    · have e1 := q2 d
      have e2 := q2' d
      exact ⟨by rw [e1, e2], fun z => absurd e1 z⟩
  · by_cases c2 : isSm (T p)
    · obtain ⟨r, s1, s2⟩ := h2 c2
      obtain ⟨r', s1', s2'⟩ := h2' c2
      have e := RunR_d r r'
      subst e
      by_cases c : 8 < q - p
      · have e1 := s1 c
        have e2 := s1' c
        exact ⟨by rw [e1, e2], fun z => absurd e1 z⟩
      · obtain ⟨a1, a2⟩ := s2 (by omega)
        obtain ⟨b1, b2⟩ := s2' (by omega)
        refine ⟨by rw [a1, b1], fun _ => ⟨rfl, fun _ => by rw [a2, b2], fun z => ?_⟩⟩
        rw [a1] at z
        unfold knm at z
        repeat' split at z
        all_goals omega
    · by_cases c3 : isDg (T p)
      · obtain ⟨r, s1, s2⟩ := h3 c3
        obtain ⟨r', s1', s2'⟩ := h3' c3
        have e := RunR_d r r'
        subst e
        by_cases c : 4 < q - p
        · have e1 := s1 c
          have e2 := s1' c
          exact ⟨by rw [e1, e2], fun z => absurd e1 z⟩
        · obtain ⟨a1, a2⟩ := s2 (by omega)
          obtain ⟨b1, b2⟩ := s2' (by omega)
          exact ⟨by rw [a1, b1], fun _ => ⟨rfl, fun _ => by rw [a2, b2], fun z => by omega⟩⟩
      · obtain ⟨a1, a2, a3⟩ := h4 c1 c2 c3
        obtain ⟨b1, b2, b3⟩ := h4' c1 c2 c3
        by_cases c : isSg (T p)
        · have e1 := a2 c
          have e2 := b2 c
          refine ⟨by rw [e1, e2], fun _ => ⟨by rw [a1, b1], fun z => ?_, fun z => ?_⟩⟩
          · rw [e1] at z; unfold isSg at c; omega
          · rw [e1] at z; unfold isSg at c; omega
        · have e1 := a3 c
          have e2 := b3 c
          exact ⟨by rw [e1, e2], fun z => absurd e1 z⟩
/-- a table of tokens: kinds, places, values, steps -/
abbrev tk_T : Type := (Nat → Int) × (Nat → Int) × (Nat → Int) × (Nat → Int)
abbrev tK (t : tk_T) : Nat → Int := t.1
abbrev tP (t : tk_T) : Nat → Int := t.2.1
abbrev tV' (t : tk_T) : Nat → Int := t.2.2.1
abbrev tS (t : tk_T) : Nat → Int := t.2.2.2
/-- token i of the table stands at p, and the text goes on at q -/
def TkI (T : Nat → Int) (n : Nat) (t : tk_T) (i p q : Nat) : Prop := tP t i = (p : Int) ∧ p ≤ n ∧ (p = n → tK t i = 256 ∧ q = n) ∧ (p < n → TokR T n p (tK t i) (tV' t i) (tS t i) q ∧ tK t i ≠ 256)
/-- the table tells the text's first m tokens -/
def Tkn (T : Nat → Int) (n : Nat) (t : tk_T) (m : Nat) : Prop := ∃ a b : Nat → Nat, Skp T n 0 (a 0) ∧ (∀ i, i < m → TkI T n t i (a i) (b i)) ∧ ∀ i, i + 1 < m → gk (tK t i) ∧ Skp T n (b i) (a (i + 1))

/-! ===== verification conditions, 501 ===== -/
theorem d_JStringLatin1_indexOf_27 : decode prog_20_method_22_code 27 = .ok (.iconst (-1), 1) := by decide +kernel
theorem d_JStringLatin1_indexOf_28 : decode prog_20_method_22_code 28 = .ok (.ireturn, 1) := by decide +kernel
theorem d_JStringLatin1_indexOf_7 : decode prog_20_method_22_code 7 = .ok (.iconst (-1), 1) := by decide +kernel
theorem d_JStringLatin1_indexOf_8 : decode prog_20_method_22_code 8 = .ok (.ireturn, 1) := by decide +kernel
theorem d_JString_indexOf_III_23 : decode prog_19_method_80_code 23 = .ok (.aload_n 0, 1) := by decide +kernel
theorem d_JString_indexOf_III_24 : decode prog_19_method_80_code 24 = .ok (.getfield 9, 3) := by decide +kernel
theorem d_JString_indexOf_III_27 : decode prog_19_method_80_code 27 = .ok (.iload_n 1, 1) := by decide +kernel
theorem d_JString_indexOf_III_28 : decode prog_19_method_80_code 28 = .ok (.iload_n 2, 1) := by decide +kernel
theorem d_JString_indexOf_III_29 : decode prog_19_method_80_code 29 = .ok (.aload_n 0, 1) := by decide +kernel
theorem d_JString_indexOf_III_30 : decode prog_19_method_80_code 30 = .ok (.invokevirtual 505, 3) := by decide +kernel
theorem d_JString_indexOf_III_33 : decode prog_19_method_80_code 33 = .ok (.invokestatic 640, 3) := by decide +kernel
def m_JStringUTF16_indexOf : mr_T := (⟨"java/lang/StringUTF16", "indexOf", "([BIII)I"⟩, prog_21_method_40_code, 4, some .int)
theorem k_JStringUTF16_indexOf : mt_OK m_JStringUTF16_indexOf 4 0 := ⟨gwi_779, gwi_151, ⟨by decide +kernel, by decide +kernel, by decide +kernel⟩, fun _ => gwi_778, fun h => absurd h (by decide), fun h => absurd h (by decide)⟩
theorem l_JString_640 : ml_OK "java/lang/String" 640 ⟨"java/lang/StringUTF16", "indexOf", "([BIII)I"⟩ := Or.inl gwi_777
def B_JStringLatin1_indexOfChar_7 (G : cx_T) (s : Nat) (a1 : Int) (a2 : Int) (a3 : Int) (v4 : Int) (v5 : Int) (h : ah_T) (Q : Option av_T → ah_T → Prop) (X7 : Int → Int → ah_T → Prop) : Prop :=
 ((a3 ≤ v5 → Q (some (av_I (-1))) h) ∧ (¬ a3 ≤ v5 → (0 ≤ v5 ∧ v5 < 13) ∧ ∀ x1 : Int, x1 = ((sk_byt.getD 6 []).getD (v5).toNat 0).toInt → ((x1 = v4 → Q (some (av_I v5)) h) ∧ (¬ x1 = v4 → ((-2147483648) ≤ (v5 + 1) ∧ (v5 + 1) ≤ 2147483647) ∧ X7 (v4) ((v5 + 1)) h))))
theorem b_JStringLatin1_indexOfChar_7 {G : cx_T} {s : Nat} {a1 : Int} {a2 : Int} {a3 : Int} {v4 : Int} {v5 : Int} {h : ah_T} {Q : Option av_T → ah_T → Prop} {X7 : Int → Int → ah_T → Prop} (hX7 : ∀ (v4 : Int) (v5 : Int) (h : ah_T), hb s h → X7 v4 v5 h → aw G (rm_R 0 0 0) m_JStringLatin1_indexOfChar 0 0 7 [some (av_S 26), none, none, some (av_I a3), some (av_I v4), some (av_I v5)] [] h Q) (hb0 : hb s h) (H : B_JStringLatin1_indexOfChar_7 G s a1 a2 a3 v4 v5 h Q X7) : aw G (rm_R 0 0 0) m_JStringLatin1_indexOfChar 0 0 7 [some (av_S 26), none, none, some (av_I a3), some (av_I v4), some (av_I v5)] [] h Q := by
  unfold B_JStringLatin1_indexOfChar_7 at H
  have hS : isS s := hb0.2.1
  refine A_iload d_JStringLatin1_indexOfChar_7 rfl ?_
  refine A_iload_n 3 d_JStringLatin1_indexOfChar_9 rfl rfl ?_
  refine A_icmp_ge (tgt := 31) d_JStringLatin1_indexOfChar_10 (by decide) (fun c => ?_) (fun c => ?_)
  · replace H := H.1 c
    refine A_iconst d_JStringLatin1_indexOfChar_31 rfl ?_
    exact A_iret d_JStringLatin1_indexOfChar_32 (by decide) rfl H
  · replace H := H.2 c
    refine A_aload_nS 0 d_JStringLatin1_indexOfChar_13 rfl rfl ?_
    refine A_iload d_JStringLatin1_indexOfChar_14 rfl ?_
    have H0 := H.1
    replace H := H.2
    refine A_sbyt (i := 6) (by decide) H0.1 H0.2 d_JStringLatin1_indexOfChar_16 ?_
    refine A_nrI (fun x1 ex1 lx1 ux1 => ?_)
    replace H := H x1 ex1
    refine A_iload d_JStringLatin1_indexOfChar_17 rfl ?_
    refine A_icmp_ne (tgt := 25) d_JStringLatin1_indexOfChar_19 (by decide) (fun c => ?_) (fun c => ?_)
    · replace H := H.2 c
      have g2 := H.1
      replace H := H.2
      refine A_iincv (z := (v5 + 1)) (L' := [some (av_S 26), none, none, some (av_I a3), some (av_I v4), some (av_I (v5 + 1))]) d_JStringLatin1_indexOfChar_25 rfl (w32_to (by omega) (by unfold i32; omega)) rfl ?_
      refine A_goto (tgt := 7) d_JStringLatin1_indexOfChar_28 (by decide) ?_
      refine A_pc (pc' := 7) rfl ?_
      exact hX7 (v4) ((v5 + 1)) h  hb0 H
    · replace H := H.1 c
      refine A_iload d_JStringLatin1_indexOfChar_22 rfl ?_
      exact A_iret d_JStringLatin1_indexOfChar_24 (by decide) rfl H
theorem lp_JStringLatin1_indexOfChar_7 {G : cx_T} {s : Nat} {a1 : Int} {a2 : Int} {a3 : Int} {Q : Option av_T → ah_T → Prop} (I : Int → Int → ah_T → Prop) (μ : Int → Int → ah_T → Nat) (hI : ∀ (v4 : Int) (v5 : Int) (h : ah_T), hb s h → I v4 v5 h → B_JStringLatin1_indexOfChar_7 G s a1 a2 a3 v4 v5 h Q (fun v4' v5' h' => I v4' v5' h' ∧ μ v4' v5' h' < μ v4 v5 h)) : ∀ (v4 : Int) (v5 : Int) (h : ah_T), hb s h → I v4 v5 h → aw G (rm_R 0 0 0) m_JStringLatin1_indexOfChar 0 0 7 [some (av_S 26), none, none, some (av_I a3), some (av_I v4), some (av_I v5)] [] h Q := by
  have key : ∀ (n : Nat) (v4 : Int) (v5 : Int) (h : ah_T), hb s h → I v4 v5 h → μ v4 v5 h < n → aw G (rm_R 0 0 0) m_JStringLatin1_indexOfChar 0 0 7 [some (av_S 26), none, none, some (av_I a3), some (av_I v4), some (av_I v5)] [] h Q := by
    intro n
    induction n with
    | zero => intro v4 v5 h  hb0 hi hm; omega
    | succ n ih => intro v4 v5 h  hb0 hi hm; exact b_JStringLatin1_indexOfChar_7  (fun v4' v5' h'  hb' hx => ih v4' v5' h'  hb' hx.1 (by have := hx.2; omega))  hb0 (hI v4 v5 h  hb0 hi)
  exact fun v4 v5 h  hb0 hi => key _ v4 v5 h  hb0 hi (Nat.lt_succ_self _)
def B_JStringLatin1_indexOfChar_0 (G : cx_T) (s : Nat) (a1 : Int) (a2 : Int) (a3 : Int) (h : ah_T) (Q : Option av_T → ah_T → Prop) (X7 : Int → Int → ah_T → Prop) : Prop :=
 ∀ x1 : Int, x1 = ((Int32.ofInt a1).toInt8.toInt32).toInt → (-2147483648) ≤ x1 → x1 ≤ 2147483647 → X7 (x1) (a2) h
theorem b_JStringLatin1_indexOfChar_0 {G : cx_T} {s : Nat} {a1 : Int} {a2 : Int} {a3 : Int} {h : ah_T} {Q : Option av_T → ah_T → Prop} {X7 : Int → Int → ah_T → Prop} (hX7 : ∀ (v4 : Int) (v5 : Int) (h : ah_T), hb s h → X7 v4 v5 h → aw G (rm_R 0 0 0) m_JStringLatin1_indexOfChar 0 0 7 [some (av_S 26), none, none, some (av_I a3), some (av_I v4), some (av_I v5)] [] h Q) (hb0 : hb s h) (H : B_JStringLatin1_indexOfChar_0 G s a1 a2 a3 h Q X7) : aw G (rm_R 0 0 0) m_JStringLatin1_indexOfChar 0 0 0 [some (av_S 26), some (av_I a1), some (av_I a2), some (av_I a3), none, none] [] h Q := by
  unfold B_JStringLatin1_indexOfChar_0 at H
  have hS : isS s := hb0.2.1
  refine A_iload_n 1 d_JStringLatin1_indexOfChar_0 rfl rfl ?_
  refine A_i2b d_JStringLatin1_indexOfChar_1 ?_
  refine A_nrI (fun x1 ex1 lx1 ux1 => ?_)
  replace H := H x1 ex1 lx1 ux1
  refine A_istore (L' := [some (av_S 26), some (av_I a1), some (av_I a2), some (av_I a3), some (av_I x1), none]) d_JStringLatin1_indexOfChar_2 (Nat.le_of_ble_eq_true rfl) rfl ?_
  refine A_iload_n 2 d_JStringLatin1_indexOfChar_4 rfl rfl ?_
  refine A_istore (L' := [some (av_S 26), some (av_I a1), some (av_I a2), some (av_I a3), some (av_I x1), some (av_I a2)]) d_JStringLatin1_indexOfChar_5 (Nat.le_of_ble_eq_true rfl) rfl ?_
  refine A_pc (pc' := 7) rfl ?_
  refine A_free (L' := [some (av_S 26), none, none, some (av_I a3), some (av_I x1), some (av_I a2)]) (And.intro rfl (And.intro rfl (And.intro rfl (And.intro rfl trivial)))) ?_
  exact hX7 (x1) (a2) h  hb0 H
theorem c_JStringLatin1_indexOfChar {G : cx_T} {s : Nat} {a1 : Int} {a2 : Int} {a3 : Int} {h : ah_T} {Q : Option av_T → ah_T → Prop} {X7 : Int → Int → ah_T → Prop} (hX7 : ∀ (v4 : Int) (v5 : Int) (h : ah_T), hb s h → X7 v4 v5 h → aw G (rm_R 0 0 0) m_JStringLatin1_indexOfChar 0 0 7 [some (av_S 26), none, none, some (av_I a3), some (av_I v4), some (av_I v5)] [] h Q) (hb0 : hb s h) (H : i32 a1 → i32 a2 → i32 a3 → B_JStringLatin1_indexOfChar_0 G s a1 a2 a3 h Q X7) : con G 0 0 0 m_JStringLatin1_indexOfChar [av_S 26, av_I a1, av_I a2, av_I a3] h Q := by
  have hS : isS s := hb0.2.1
  refine con_of (L := [some (av_S 26), some (av_I a1), some (av_I a2), some (av_I a3), none, none]) (by decide +kernel) (Nat.le_of_ble_eq_true rfl) rfl ?_
  refine A_locI 1 rfl (fun ra1 => ?_)
  refine A_locI 2 rfl (fun ra2 => ?_)
  refine A_locI 3 rfl (fun ra3 => ?_)
  exact b_JStringLatin1_indexOfChar_0  hX7 hb0 (H ra1 ra2 ra3)
def B_JStringLatin1_indexOf_0 (G : cx_T) (s : Nat) (a1 : Int) (a2 : Int) (a3 : Int) (h : ah_T) (Q : Option av_T → ah_T → Prop) : Prop :=
 con G 0 0 0 m_JStringLatin1_canEncode [av_I a1] h (fun r h1 => ∃ z3 : Int, r = some (av_I z3) ∧ hb s h1 ∧ ((z3 = 0 → Q (some (av_I (-1))) h1) ∧ (¬ z3 = 0 → ∀ x4 : Int, x4 = (if a2 < 0 then 0 else a2) → -2147483648 ≤ x4 → x4 ≤ 2147483647 → ∀ x5 : Int, x5 = (if 13 < a3 then 13 else a3) → -2147483648 ≤ x5 → x5 ≤ 2147483647 → ((x4 < x5 → con G 0 0 0 m_JStringLatin1_indexOfChar [av_S 26, av_I a1, av_I x4, av_I x5] h1 (fun r h6 => ∃ z8 : Int, r = some (av_I z8) ∧ hb s h6 ∧ Q (some (av_I z8)) h6)) ∧ (¬ x4 < x5 → Q (some (av_I (-1))) h1)))))
theorem b_JStringLatin1_indexOf_0 {G : cx_T} {s : Nat} {a1 : Int} {a2 : Int} {a3 : Int} {h : ah_T} {Q : Option av_T → ah_T → Prop} (hb0 : hb s h) (H : B_JStringLatin1_indexOf_0 G s a1 a2 a3 h Q ) : aw G (rm_R 1 0 0) m_JStringLatin1_indexOf 0 0 0 [some (av_S 26), some (av_I a1), some (av_I a2), some (av_I a3)] [] h Q := by
  unfold B_JStringLatin1_indexOf_0 at H
  have hS : isS s := hb0.2.1
  refine A_iload_n 1 d_JStringLatin1_indexOf_0 rfl rfl ?_
  refine A_callS1 m_JStringLatin1_canEncode d_JStringLatin1_indexOf_1 l_JStringLatin1_88 k_JStringLatin1_canEncode (by decide +kernel) (by decide) (Nat.le_of_ble_eq_true rfl) H (fun r h1 hq => ?_)
  clear H
  obtain ⟨z3, rfl, hb2, H⟩ := hq
  refine A_if_ne (tgt := 9) d_JStringLatin1_indexOf_4 (by decide) (fun c => ?_) (fun c => ?_)
  · replace H := H.2 c
    refine A_iload_n 2 d_JStringLatin1_indexOf_9 rfl rfl ?_
    refine A_iconst d_JStringLatin1_indexOf_10 rfl ?_
    refine A_mmax (z := (if a2 < 0 then 0 else a2)) d_JStringLatin1_indexOf_11 lm_JStringLatin1_92 ma_max (by decide) (by decide) (Nat.le_of_ble_eq_true rfl) rfl ?_
    refine A_nrI (fun x4 ex4 lx4 ux4 => ?_)
    replace H := H x4 ex4 lx4 ux4
    refine A_istore_n 2 (L' := [some (av_S 26), some (av_I a1), some (av_I x4), some (av_I a3)]) d_JStringLatin1_indexOf_14 rfl (Nat.le_of_ble_eq_true rfl) rfl ?_
    refine A_iload_n 3 d_JStringLatin1_indexOf_15 rfl rfl ?_
    refine A_pc (pc' := 16) rfl ?_
    refine A_aload_nS 0 d_JStringLatin1_indexOf_16 rfl rfl ?_
    refine A_slen (i := 6) (z := 13) (by decide) rfl d_JStringLatin1_indexOf_17 ?_
    refine A_mmin (z := (if 13 < a3 then 13 else a3)) d_JStringLatin1_indexOf_18 lm_JStringLatin1_38 ma_min (by decide) (by decide) (Nat.le_of_ble_eq_true rfl) rfl ?_
    refine A_nrI (fun x5 ex5 lx5 ux5 => ?_)
    replace H := H x5 ex5 lx5 ux5
    refine A_istore_n 3 (L' := [some (av_S 26), some (av_I a1), some (av_I x4), some (av_I x5)]) d_JStringLatin1_indexOf_21 rfl (Nat.le_of_ble_eq_true rfl) rfl ?_
    refine A_iload_n 2 d_JStringLatin1_indexOf_22 rfl rfl ?_
    refine A_iload_n 3 d_JStringLatin1_indexOf_23 rfl rfl ?_
    refine A_pc (pc' := 24) rfl ?_
    refine A_icmp_lt (tgt := 29) d_JStringLatin1_indexOf_24 (by decide) (fun c => ?_) (fun c => ?_)
    · replace H := H.1 c
      refine A_aload_nS 0 d_JStringLatin1_indexOf_29 rfl rfl ?_
      refine A_iload_n 1 d_JStringLatin1_indexOf_30 rfl rfl ?_
      refine A_iload_n 2 d_JStringLatin1_indexOf_31 rfl rfl ?_
      refine A_iload_n 3 d_JStringLatin1_indexOf_32 rfl rfl ?_
      refine A_callS4 m_JStringLatin1_indexOfChar d_JStringLatin1_indexOf_33 l_JStringLatin1_95 k_JStringLatin1_indexOfChar (by decide +kernel) (by decide) (Nat.le_of_ble_eq_true rfl) H (fun r h6 hq => ?_)
      clear H
      obtain ⟨z8, rfl, hb7, H⟩ := hq
      exact A_iret d_JStringLatin1_indexOf_36 (by decide) rfl H
    · replace H := H.2 c
      refine A_iconst d_JStringLatin1_indexOf_27 rfl ?_
      exact A_iret d_JStringLatin1_indexOf_28 (by decide) rfl H
  · replace H := H.1 c
    refine A_iconst d_JStringLatin1_indexOf_7 rfl ?_
    exact A_iret d_JStringLatin1_indexOf_8 (by decide) rfl H
theorem c_JStringLatin1_indexOf {G : cx_T} {s : Nat} {a1 : Int} {a2 : Int} {a3 : Int} {h : ah_T} {Q : Option av_T → ah_T → Prop} (hb0 : hb s h) (H : i32 a1 → i32 a2 → i32 a3 → B_JStringLatin1_indexOf_0 G s a1 a2 a3 h Q ) : con G 1 0 0 m_JStringLatin1_indexOf [av_S 26, av_I a1, av_I a2, av_I a3] h Q := by
  have hS : isS s := hb0.2.1
  refine con_of (L := [some (av_S 26), some (av_I a1), some (av_I a2), some (av_I a3)]) (by decide +kernel) (Nat.le_of_ble_eq_true rfl) rfl ?_
  refine A_locI 1 rfl (fun ra1 => ?_)
  refine A_locI 2 rfl (fun ra2 => ?_)
  refine A_locI 3 rfl (fun ra3 => ?_)
  exact b_JStringLatin1_indexOf_0   hb0 (H ra1 ra2 ra3)
def B_JString_indexOf_III_36 (G : cx_T) (s : Nat) (a1 : Int) (a2 : Int) (t0 : Int) (h : ah_T) (Q : Option av_T → ah_T → Prop) : Prop :=
 Q (some (av_I t0)) h
theorem b_JString_indexOf_III_36 {G : cx_T} {s : Nat} {a1 : Int} {a2 : Int} {t0 : Int} {h : ah_T} {Q : Option av_T → ah_T → Prop} (hb0 : hb s h) (H : B_JString_indexOf_III_36 G s a1 a2 t0 h Q ) : aw G (rm_R 5 0 0) m_JString_indexOf_III 0 0 36 [none, none, none] [av_I t0] h Q := by
  unfold B_JString_indexOf_III_36 at H
  have hS : isS s := hb0.2.1
  exact A_iret d_JString_indexOf_III_36 (by decide) rfl H
def B_JString_indexOf_III_0 (G : cx_T) (s : Nat) (a1 : Int) (a2 : Int) (h : ah_T) (Q : Option av_T → ah_T → Prop) : Prop :=
 con G 0 0 0 m_JString_isLatin1 [av_S 16] h (fun r h1 => ∃ z3 : Int, r = some (av_I z3) ∧ hb s h1 ∧ ((z3 = 0 → con G 1 0 0 m_JString_length [av_S 16] h1 (fun r h4 => ∃ z6 : Int, r = some (av_I z6) ∧ hb s h4 ∧ con G 4 0 0 m_JStringUTF16_indexOf [av_S 26, av_I a1, av_I a2, av_I z6] h4 (fun r h7 => ∃ z9 : Int, r = some (av_I z9) ∧ hb s h7 ∧ B_JString_indexOf_III_36 G s a1 a2 (z9) h7 Q ))) ∧ (¬ z3 = 0 → con G 1 0 0 m_JString_length [av_S 16] h1 (fun r h10 => ∃ z12 : Int, r = some (av_I z12) ∧ hb s h10 ∧ con G 1 0 0 m_JStringLatin1_indexOf [av_S 26, av_I a1, av_I a2, av_I z12] h10 (fun r h13 => ∃ z15 : Int, r = some (av_I z15) ∧ hb s h13 ∧ B_JString_indexOf_III_36 G s a1 a2 (z15) h13 Q )))))
theorem b_JString_indexOf_III_0 {G : cx_T} {s : Nat} {a1 : Int} {a2 : Int} {h : ah_T} {Q : Option av_T → ah_T → Prop} (hb0 : hb s h) (H : B_JString_indexOf_III_0 G s a1 a2 h Q ) : aw G (rm_R 5 0 0) m_JString_indexOf_III 0 0 0 [some (av_S 16), some (av_I a1), some (av_I a2)] [] h Q := by
  unfold B_JString_indexOf_III_0 at H
  have hS : isS s := hb0.2.1
  refine A_aload_nS 0 d_JString_indexOf_III_0 rfl rfl ?_
  refine A_pc (pc' := 1) rfl ?_
  refine A_callT0 (i := 6) (N := m_JString_isLatin1) (by decide) rfl d_JString_indexOf_III_1 ll_JString_492 k_JString_isLatin1 (by decide +kernel) (by decide) (Nat.le_of_ble_eq_true rfl) H (fun r h1 hq => ?_)
  clear H
  obtain ⟨z3, rfl, hb2, H⟩ := hq
  refine A_if_eq (tgt := 23) d_JString_indexOf_III_4 (by decide) (fun c => ?_) (fun c => ?_)
  · replace H := H.1 c
    refine A_aload_nS 0 d_JString_indexOf_III_23 rfl rfl ?_
    refine A_sval (i := 6) (by decide) gs_JString_9 d_JString_indexOf_III_24 ?_
    refine A_iload_n 1 d_JString_indexOf_III_27 rfl rfl ?_
    refine A_iload_n 2 d_JString_indexOf_III_28 rfl rfl ?_
    refine A_aload_nS 0 d_JString_indexOf_III_29 rfl rfl ?_
    refine A_pc (pc' := 30) rfl ?_
    refine A_pc (pc' := 30) rfl ?_
    refine A_callT0 (i := 6) (N := m_JString_length) (by decide) rfl d_JString_indexOf_III_30 ll_JString_505 k_JString_length (by decide +kernel) (by decide) (Nat.le_of_ble_eq_true rfl) H (fun r h4 hq => ?_)
    clear H
    obtain ⟨z6, rfl, hb5, H⟩ := hq
    refine A_callS4 m_JStringUTF16_indexOf d_JString_indexOf_III_33 l_JString_640 k_JStringUTF16_indexOf (by decide +kernel) (by decide) (Nat.le_of_ble_eq_true rfl) H (fun r h7 hq => ?_)
    clear H
    obtain ⟨z9, rfl, hb8, H⟩ := hq
    refine A_pc (pc' := 36) rfl ?_
    refine A_free (L' := [none, none, none]) trivial ?_
    exact b_JString_indexOf_III_36    hb8 H
  · replace H := H.2 c
    refine A_aload_nS 0 d_JString_indexOf_III_7 rfl rfl ?_
    refine A_sval (i := 6) (by decide) gs_JString_9 d_JString_indexOf_III_8 ?_
    refine A_iload_n 1 d_JString_indexOf_III_11 rfl rfl ?_
    refine A_iload_n 2 d_JString_indexOf_III_12 rfl rfl ?_
    refine A_aload_nS 0 d_JString_indexOf_III_13 rfl rfl ?_
    refine A_pc (pc' := 14) rfl ?_
    refine A_pc (pc' := 14) rfl ?_
    refine A_callT0 (i := 6) (N := m_JString_length) (by decide) rfl d_JString_indexOf_III_14 ll_JString_505 k_JString_length (by decide +kernel) (by decide) (Nat.le_of_ble_eq_true rfl) H (fun r h10 hq => ?_)
    clear H
    obtain ⟨z12, rfl, hb11, H⟩ := hq
    refine A_callS4 m_JStringLatin1_indexOf d_JString_indexOf_III_17 l_JString_637 k_JStringLatin1_indexOf (by decide +kernel) (by decide) (Nat.le_of_ble_eq_true rfl) H (fun r h13 hq => ?_)
    clear H
    obtain ⟨z15, rfl, hb14, H⟩ := hq
    refine A_goto (tgt := 36) d_JString_indexOf_III_20 (by decide) ?_
    refine A_pc (pc' := 36) rfl ?_
    refine A_free (L' := [none, none, none]) trivial ?_
    exact b_JString_indexOf_III_36    hb14 H
theorem c_JString_indexOf_III {G : cx_T} {s : Nat} {a1 : Int} {a2 : Int} {h : ah_T} {Q : Option av_T → ah_T → Prop} (hb0 : hb s h) (H : i32 a1 → i32 a2 → B_JString_indexOf_III_0 G s a1 a2 h Q ) : con G 5 0 0 m_JString_indexOf_III [av_S 16, av_I a1, av_I a2] h Q := by
  have hS : isS s := hb0.2.1
  refine con_of (L := [some (av_S 16), some (av_I a1), some (av_I a2)]) (by decide +kernel) (Nat.le_of_ble_eq_true rfl) rfl ?_
  refine A_locI 1 rfl (fun ra1 => ?_)
  refine A_locI 2 rfl (fun ra2 => ?_)
  exact b_JString_indexOf_III_0   hb0 (H ra1 ra2)
def B_JString_indexOf_II_0 (G : cx_T) (s : Nat) (a1 : Int) (h : ah_T) (Q : Option av_T → ah_T → Prop) : Prop :=
 con G 5 0 0 m_JString_indexOf_III [av_S 16, av_I a1, av_I 0] h (fun r h1 => ∃ z3 : Int, r = some (av_I z3) ∧ hb s h1 ∧ Q (some (av_I z3)) h1)
theorem b_JString_indexOf_II_0 {G : cx_T} {s : Nat} {a1 : Int} {h : ah_T} {Q : Option av_T → ah_T → Prop} (hb0 : hb s h) (H : B_JString_indexOf_II_0 G s a1 h Q ) : aw G (rm_R 6 0 0) m_JString_indexOf_II 0 0 0 [some (av_S 16), some (av_I a1)] [] h Q := by
  unfold B_JString_indexOf_II_0 at H
  have hS : isS s := hb0.2.1
  refine A_aload_nS 0 d_JString_indexOf_II_0 rfl rfl ?_
  refine A_iload_n 1 d_JString_indexOf_II_1 rfl rfl ?_
  refine A_iconst d_JString_indexOf_II_2 rfl ?_
  refine A_pc (pc' := 3) rfl ?_
  refine A_callT2 (i := 6) (N := m_JString_indexOf_III) (by decide) rfl d_JString_indexOf_II_3 ll_JString_633 k_JString_indexOf_III (by decide +kernel) (by decide) (Nat.le_of_ble_eq_true rfl) H (fun r h1 hq => ?_)
  clear H
  obtain ⟨z3, rfl, hb2, H⟩ := hq
  exact A_iret d_JString_indexOf_II_6 (by decide) rfl H
theorem c_JString_indexOf_II {G : cx_T} {s : Nat} {a1 : Int} {h : ah_T} {Q : Option av_T → ah_T → Prop} (hb0 : hb s h) (H : i32 a1 → B_JString_indexOf_II_0 G s a1 h Q ) : con G 6 0 0 m_JString_indexOf_II [av_S 16, av_I a1] h Q := by
  have hS : isS s := hb0.2.1
  refine con_of (L := [some (av_S 16), some (av_I a1)]) (by decide +kernel) (Nat.le_of_ble_eq_true rfl) rfl ?_
  refine A_locI 1 rfl (fun ra1 => ?_)
  exact b_JString_indexOf_II_0   hb0 (H ra1)
def B_JInteger_bitCount_0 (G : cx_T) (s : Nat) (a0 : Int) (h : ah_T) (Q : Option av_T → ah_T → Prop) : Prop :=
 ∀ x1 : Int, x1 = ((Int32.ofInt a0).toUInt32 >>> ((Int32.ofInt 1).toUInt32 &&& Int32.toUInt32 31)).toInt32.toInt → (-2147483648) ≤ x1 → x1 ≤ 2147483647 → ∀ x2 : Int, x2 = ((Int32.ofInt x1) &&& (Int32.ofInt 1431655765)).toInt → (-2147483648) ≤ x2 → x2 ≤ 2147483647 → ∀ x3 : Int, x3 = w32 (a0 - x2) → (-2147483648) ≤ x3 → x3 ≤ 2147483647 → ∀ x4 : Int, x4 = ((Int32.ofInt x3) &&& (Int32.ofInt 858993459)).toInt → (-2147483648) ≤ x4 → x4 ≤ 2147483647 → ∀ x5 : Int, x5 = ((Int32.ofInt x3).toUInt32 >>> ((Int32.ofInt 2).toUInt32 &&& Int32.toUInt32 31)).toInt32.toInt → (-2147483648) ≤ x5 → x5 ≤ 2147483647 → ∀ x6 : Int, x6 = ((Int32.ofInt x5) &&& (Int32.ofInt 858993459)).toInt → (-2147483648) ≤ x6 → x6 ≤ 2147483647 → ∀ x7 : Int, x7 = w32 (x4 + x6) → (-2147483648) ≤ x7 → x7 ≤ 2147483647 → ∀ x8 : Int, x8 = ((Int32.ofInt x7).toUInt32 >>> ((Int32.ofInt 4).toUInt32 &&& Int32.toUInt32 31)).toInt32.toInt → (-2147483648) ≤ x8 → x8 ≤ 2147483647 → ∀ x9 : Int, x9 = w32 (x7 + x8) → (-2147483648) ≤ x9 → x9 ≤ 2147483647 → ∀ x10 : Int, x10 = ((Int32.ofInt x9) &&& (Int32.ofInt 252645135)).toInt → (-2147483648) ≤ x10 → x10 ≤ 2147483647 → ∀ x11 : Int, x11 = ((Int32.ofInt x10).toUInt32 >>> ((Int32.ofInt 8).toUInt32 &&& Int32.toUInt32 31)).toInt32.toInt → (-2147483648) ≤ x11 → x11 ≤ 2147483647 → ∀ x12 : Int, x12 = w32 (x10 + x11) → (-2147483648) ≤ x12 → x12 ≤ 2147483647 → ∀ x13 : Int, x13 = ((Int32.ofInt x12).toUInt32 >>> ((Int32.ofInt 16).toUInt32 &&& Int32.toUInt32 31)).toInt32.toInt → (-2147483648) ≤ x13 → x13 ≤ 2147483647 → ∀ x14 : Int, x14 = w32 (x12 + x13) → (-2147483648) ≤ x14 → x14 ≤ 2147483647 → ∀ x15 : Int, x15 = ((Int32.ofInt x14) &&& (Int32.ofInt 63)).toInt → (-2147483648) ≤ x15 → x15 ≤ 2147483647 → Q (some (av_I x15)) h
theorem b_JInteger_bitCount_0 {G : cx_T} {s : Nat} {a0 : Int} {h : ah_T} {Q : Option av_T → ah_T → Prop} (hb0 : hb s h) (H : B_JInteger_bitCount_0 G s a0 h Q ) : aw G (rm_R 0 0 0) m_JInteger_bitCount 0 0 0 [some (av_I a0)] [] h Q := by
  unfold B_JInteger_bitCount_0 at H
  have hS : isS s := hb0.2.1
  refine A_iload_n 0 d_JInteger_bitCount_0 rfl rfl ?_
  refine A_iload_n 0 d_JInteger_bitCount_1 rfl rfl ?_
  refine A_iconst d_JInteger_bitCount_2 rfl ?_
  refine A_iushr d_JInteger_bitCount_3 ?_
  refine A_nrI (fun x1 ex1 lx1 ux1 => ?_)
  replace H := H x1 ex1 lx1 ux1
  refine A_ldcw (z := 1431655765) d_JInteger_bitCount_4 cst_JInteger_265 rfl ?_
  refine A_pc (pc' := 7) rfl ?_
  refine A_iand d_JInteger_bitCount_7 ?_
  refine A_nrI (fun x2 ex2 lx2 ux2 => ?_)
  replace H := H x2 ex2 lx2 ux2
  refine A_isubw d_JInteger_bitCount_8 (fun x3 ex3 lx3 ux3 => ?_)
  replace H := H x3 (ex3.trans (by first | rfl | (congr 1; omega))) lx3 ux3
  refine A_istore_n 0 (L' := [some (av_I x3)]) d_JInteger_bitCount_9 rfl (Nat.le_of_ble_eq_true rfl) rfl ?_
  refine A_iload_n 0 d_JInteger_bitCount_10 rfl rfl ?_
  refine A_ldcw (z := 858993459) d_JInteger_bitCount_11 cst_JInteger_266 rfl ?_
  refine A_iand d_JInteger_bitCount_14 ?_
  refine A_nrI (fun x4 ex4 lx4 ux4 => ?_)
  replace H := H x4 ex4 lx4 ux4
  refine A_pc (pc' := 15) rfl ?_
  refine A_iload_n 0 d_JInteger_bitCount_15 rfl rfl ?_
  refine A_iconst d_JInteger_bitCount_16 rfl ?_
  refine A_iushr d_JInteger_bitCount_17 ?_
  refine A_nrI (fun x5 ex5 lx5 ux5 => ?_)
  replace H := H x5 ex5 lx5 ux5
  refine A_ldcw (z := 858993459) d_JInteger_bitCount_18 cst_JInteger_266 rfl ?_
  refine A_iand d_JInteger_bitCount_21 ?_
  refine A_nrI (fun x6 ex6 lx6 ux6 => ?_)
  replace H := H x6 ex6 lx6 ux6
  refine A_iaddw d_JInteger_bitCount_22 (fun x7 ex7 lx7 ux7 => ?_)
  replace H := H x7 (ex7.trans (by first | rfl | (congr 1; omega))) lx7 ux7
  refine A_pc (pc' := 23) rfl ?_
  refine A_istore_n 0 (L' := [some (av_I x7)]) d_JInteger_bitCount_23 rfl (Nat.le_of_ble_eq_true rfl) rfl ?_
  refine A_iload_n 0 d_JInteger_bitCount_24 rfl rfl ?_
  refine A_iload_n 0 d_JInteger_bitCount_25 rfl rfl ?_
  refine A_iconst d_JInteger_bitCount_26 rfl ?_
  refine A_iushr d_JInteger_bitCount_27 ?_
  refine A_nrI (fun x8 ex8 lx8 ux8 => ?_)
  replace H := H x8 ex8 lx8 ux8
  refine A_iaddw d_JInteger_bitCount_28 (fun x9 ex9 lx9 ux9 => ?_)
  replace H := H x9 (ex9.trans (by first | rfl | (congr 1; omega))) lx9 ux9
  refine A_pc (pc' := 29) rfl ?_
  refine A_ldcw (z := 252645135) d_JInteger_bitCount_29 cst_JInteger_267 rfl ?_
  refine A_iand d_JInteger_bitCount_32 ?_
  refine A_nrI (fun x10 ex10 lx10 ux10 => ?_)
  replace H := H x10 ex10 lx10 ux10
  refine A_istore_n 0 (L' := [some (av_I x10)]) d_JInteger_bitCount_33 rfl (Nat.le_of_ble_eq_true rfl) rfl ?_
  refine A_iload_n 0 d_JInteger_bitCount_34 rfl rfl ?_
  refine A_iload_n 0 d_JInteger_bitCount_35 rfl rfl ?_
  refine A_bipush d_JInteger_bitCount_36 rfl ?_
  refine A_pc (pc' := 38) rfl ?_
  refine A_iushr d_JInteger_bitCount_38 ?_
  refine A_nrI (fun x11 ex11 lx11 ux11 => ?_)
  replace H := H x11 ex11 lx11 ux11
  refine A_iaddw d_JInteger_bitCount_39 (fun x12 ex12 lx12 ux12 => ?_)
  replace H := H x12 (ex12.trans (by first | rfl | (congr 1; omega))) lx12 ux12
  refine A_istore_n 0 (L' := [some (av_I x12)]) d_JInteger_bitCount_40 rfl (Nat.le_of_ble_eq_true rfl) rfl ?_
  refine A_iload_n 0 d_JInteger_bitCount_41 rfl rfl ?_
  refine A_iload_n 0 d_JInteger_bitCount_42 rfl rfl ?_
  refine A_bipush d_JInteger_bitCount_43 rfl ?_
  refine A_pc (pc' := 45) rfl ?_
  refine A_iushr d_JInteger_bitCount_45 ?_
  refine A_nrI (fun x13 ex13 lx13 ux13 => ?_)
  replace H := H x13 ex13 lx13 ux13
  refine A_iaddw d_JInteger_bitCount_46 (fun x14 ex14 lx14 ux14 => ?_)
  replace H := H x14 (ex14.trans (by first | rfl | (congr 1; omega))) lx14 ux14
  refine A_istore_n 0 (L' := [some (av_I x14)]) d_JInteger_bitCount_47 rfl (Nat.le_of_ble_eq_true rfl) rfl ?_
  refine A_iload_n 0 d_JInteger_bitCount_48 rfl rfl ?_
  refine A_bipush d_JInteger_bitCount_49 rfl ?_
  refine A_iand d_JInteger_bitCount_51 ?_
  refine A_nrI (fun x15 ex15 lx15 ux15 => ?_)
  replace H := H x15 ex15 lx15 ux15
  refine A_pc (pc' := 52) rfl ?_
  exact A_iret d_JInteger_bitCount_52 (by decide) rfl H
theorem c_JInteger_bitCount {G : cx_T} {s : Nat} {a0 : Int} {h : ah_T} {Q : Option av_T → ah_T → Prop} (hb0 : hb s h) (H : i32 a0 → B_JInteger_bitCount_0 G s a0 h Q ) : con G 0 0 0 m_JInteger_bitCount [av_I a0] h Q := by
  have hS : isS s := hb0.2.1
  refine con_of (L := [some (av_I a0)]) (by decide +kernel) (Nat.le_of_ble_eq_true rfl) rfl ?_
  refine A_locI 0 rfl (fun ra0 => ?_)
  exact b_JInteger_bitCount_0   hb0 (H ra0)
