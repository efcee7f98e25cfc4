/-! ===== the table of trees ===== -/
theorem RK_k {P : Nat → Nat → Bool} {q q' : ah_T} (kn : kM P q q') (hQ : ∀ a, a ∈ [172, 177, 178, 179, 180, 181, 182] → ∀ j, P a j = false) : RK q q' := by
  have f : ∀ a, a ∈ [172, 177, 178, 179, 180, 181, 182] → ∀ j, q'.2.1 a j = q.2.1 a j := fun a ha j => kn.2.2.1 a j (hQ a ha j)
  exact ⟨f 172 (by decide) 0, fun k _ => ⟨f 178 (by decide) k, f 179 (by decide) k, f 180 (by decide) k⟩, f 177 (by decide) 0, fun k _ => f 182 (by decide) k, f 181 (by decide) 0⟩
theorem cap_le (v : Int) : cap v ≤ v := by
  unfold cap
  split <;> omega
theorem BR_1 {h : ah_T} {r : Nat} {f n l : Int} (hr : h.2.1 180 r < 0) : BR h r f n l = BR h r f n 1 := by
  unfold BR
  rw [if_pos hr, if_pos hr]
theorem cuts_n {h : ah_T} {r : Nat} {n : Int} (hr : h.2.1 180 r < 0) : cuts h r n = 1 := if_pos hr
theorem cuts_p {h : ah_T} {r : Nat} {n : Int} (hr : 0 ≤ h.2.1 180 r) : cuts h r n = n - 1 := if_neg (by omega)
theorem RS_y {h : ah_T} {a f n : Int} {r r' : Nat} (e : h.2.1 178 r = a) (hr : r' = r + 1) : RS h a f n r' = RS h a f n r + CS h r f n (cuts h r n).toNat := by
  subst hr
  show RS h a f n r + (if h.2.1 178 r = a then CS h r f n (cuts h r n).toNat else 0) = _
  rw [if_pos e]
theorem RS_n {h : ah_T} {a f n : Int} {r r' : Nat} (e : h.2.1 178 r ≠ a) (hr : r' = r + 1) : RS h a f n r' = RS h a f n r := by
  subst hr
  show RS h a f n r + (if h.2.1 178 r = a then CS h r f n (cuts h r n).toNat else 0) = _
  rw [if_neg e]
  omega
theorem CS_n {h : ah_T} {r : Nat} {f n : Int} {c c' : Nat} {l : Int} (hc : c' = c + 1) (hl : l = c + 1) : CS h r f n c' = CS h r f n c + BR h r f n l := by
  subst hc hl
  rfl
theorem CS_1 {h : ah_T} {r : Nat} {f n : Int} (hr : h.2.1 180 r < 0) {l : Int} : CS h r f n (cuts h r n).toNat = BR h r f n l := by
  rw [cuts_n hr, BR_1 hr]
  show 0 + BR h r f n (((0 : Nat) : Int) + 1) = _
  rw [Int.zero_add]
  rfl
/-- the table is right up to a size, a place, a name -/
def TB (q : ah_T) (n f0 a0 : Int) : Prop := ∀ a f m : Int, 0 ≤ a → a ≤ 15 → 0 ≤ f → 1 ≤ m → f + m ≤ q.2.1 181 0 → (m < n ∨ (m = n ∧ (f < f0 ∨ (f = f0 ∧ a < a0)))) → q.2.2.1 231 (tix a f m) ≤ RS q a f m (q.2.1 177 0).toNat
theorem TB_0 {q : ah_T} : TB q 1 0 0 := fun a f m h1 h2 h3 h4 h5 h6 => by omega
theorem TB_a {q : ah_T} {n f a : Int} (H : TB q n f a) (ha : 16 ≤ a) : TB q n (f + 1) 0 := fun a f m h1 h2 h3 h4 h5 h6 => H a f m h1 h2 h3 h4 h5 (by omega)
theorem TB_f {q : ah_T} {n f : Int} (H : TB q n f 0) (hf : q.2.1 181 0 < f + n) : TB q (n + 1) 0 0 := fun a f m h1 h2 h3 h4 h5 h6 => H a f m h1 h2 h3 h4 h5 (by omega)
theorem TB_z {q : ah_T} {n : Int} (H : TB q n 0 0) (hn : q.2.1 181 0 < n) : TT q := fun a f m h1 h2 h3 h4 h5 => H a f m h1 h2 h3 h4 h5 (by omega)
theorem tix_ne {a f n a' f' n' : Int} (ha : 0 ≤ a) (hf : 0 ≤ f) (hn : 0 ≤ n) (hn2 : n ≤ 12) (ha' : 0 ≤ a') (hf' : 0 ≤ f') (hn' : 0 ≤ n') (hn2' : n' ≤ 12) (h : n ≠ n') : tix a f n ≠ tix a' f' n' := by
  intro e
  unfold tix at e
  omega
section TBW
variable {q q' : ah_T} {a0 f0 n x : Int} {ix : Nat}
theorem BR_w (hx : mi q) (hR : RL q) (K : RK q q') (ft : ∀ j, j ≠ ix → q'.2.2.1 231 j = q.2.2.1 231 j) (hi : ix = tix a0 f0 n) (ha : 0 ≤ a0) (hf : 0 ≤ f0) (hn : 1 ≤ n) (hfn : f0 + n ≤ 12) {f m l : Int} {r : Nat} (hr : (r : Int) < q.2.1 177 0) (h1 : 0 ≤ f) (h2 : f + m ≤ 12) (hm : m ≤ n) (hl : 0 ≤ q.2.1 180 r → 1 ≤ l ∧ l ≤ m - 1) (hf2 : f ≤ 11) : BR q' r f m l = BR q r f m l := by
  obtain ⟨-, K2, -, K4, -⟩ := K
  have r1 := mi_g hx (by decide) (rfl : mr 177 0 = (0, 24))
  have r2 : -2 ≤ q.2.1 179 r ∧ q.2.1 179 r ≤ 15 := mi_g hx (by decide) (rfl : mr 179 r = (-2, 15))
  have r3 : -2 ≤ q.2.1 180 r ∧ q.2.1 180 r ≤ 15 := mi_g hx (by decide) (rfl : mr 180 r = (-2, 15))
  have r4 := (hR r hr).2
  obtain ⟨-, y2, y3⟩ := K2 r (by omega)
  unfold BR
  rw [y2, y3, K4 _ (by omega)]
  by_cases hc : q.2.1 180 r < 0
  · rw [if_pos hc, if_pos hc]
  · have h3 := hl (by omega)
    rw [if_neg hc, if_neg hc, ft _ (by rw [hi]; exact tix_ne (by omega) (by omega) (by omega) (by omega) (by omega) (by omega) (by omega) (by omega) (by omega)), ft _ (by rw [hi]; exact tix_ne (by omega) (by omega) (by omega) (by omega) (by omega) (by omega) (by omega) (by omega) (by omega))]
theorem CS_w (hx : mi q) (hR : RL q) (K : RK q q') (ft : ∀ j, j ≠ ix → q'.2.2.1 231 j = q.2.2.1 231 j) (hi : ix = tix a0 f0 n) (ha : 0 ≤ a0) (hf : 0 ≤ f0) (hn : 1 ≤ n) (hfn : f0 + n ≤ 12) {f m : Int} {r : Nat} (hr : (r : Int) < q.2.1 177 0) (h1 : 0 ≤ f) (h2 : f + m ≤ 12) (hm : m ≤ n) (hf2 : f ≤ 11) : ∀ c : Nat, (0 ≤ q.2.1 180 r → (c : Int) ≤ m - 1) → CS q' r f m c = CS q r f m c
  | 0, _ => rfl
  | c + 1, hc => by
    show CS q' r f m c + BR q' r f m _ = CS q r f m c + BR q r f m _
    rw [CS_w hx hR K ft hi ha hf hn hfn hr h1 h2 hm hf2 c (fun q1 => by have := hc q1; omega), BR_w hx hR K ft hi ha hf hn hfn hr h1 h2 hm (fun q1 => by have := hc q1; omega) hf2]
theorem RS_w (hx : mi q) (hR : RL q) (K : RK q q') (ft : ∀ j, j ≠ ix → q'.2.2.1 231 j = q.2.2.1 231 j) (hi : ix = tix a0 f0 n) (ha : 0 ≤ a0) (hf : 0 ≤ f0) (hn : 1 ≤ n) (hfn : f0 + n ≤ 12) {a f m : Int} (h1 : 0 ≤ f) (h2 : f + m ≤ 12) (hm0 : 1 ≤ m) (hm : m ≤ n) : ∀ r : Nat, (r : Int) ≤ q.2.1 177 0 → RS q' a f m r = RS q a f m r
  | 0, _ => rfl
  | r + 1, hr => by
    have r1 := mi_g hx (by decide) (rfl : mr 177 0 = (0, 24))
    have hK := K.2.1 r (by omega)
    show RS q' a f m r + (if q'.2.1 178 r = a then CS q' r f m (cuts q' r m).toNat else 0) = RS q a f m r + (if q.2.1 178 r = a then CS q r f m (cuts q r m).toNat else 0)
    rw [RS_w hx hR K ft hi ha hf hn hfn h1 h2 hm0 hm r (by omega), hK.1, cuts_e K (by omega), CS_w hx hR K ft hi ha hf hn hfn (by omega) h1 h2 hm (by omega) _ (fun q1 => by rw [cuts_p q1]; omega)]
theorem TB_w (hx : mi q) (hR : RL q) (H : TB q n f0 a0) (K : RK q q') (ft : ∀ j, j ≠ ix → q'.2.2.1 231 j = q.2.2.1 231 j) (e : q'.2.2.1 231 ix = x) (hi : ix = tix a0 f0 n) (ha : 0 ≤ a0) (hf : 0 ≤ f0) (hn : 1 ≤ n) (hfn : f0 + n ≤ q.2.1 181 0) (hxs : x ≤ RS q a0 f0 n (q.2.1 177 0).toNat) : TB q' n f0 (a0 + 1) := by
  have r1 := mi_g hx (by decide) (rfl : mr 177 0 = (0, 24))
  have r2 := mi_g hx (by decide) (rfl : mr 181 0 = (0, 12))
  obtain ⟨-, -, K3, -, K5⟩ := id K
  intro a f m h1 h2 h3 h4 h5 h6
  rw [K5] at h5
  rw [K3, RS_w hx hR K ft hi ha hf hn (by omega) h3 (by omega) h4 (by omega) _ (by omega)]
  by_cases hc : m = n ∧ f = f0 ∧ a = a0
  · obtain ⟨rfl, rfl, rfl⟩ := hc
    rw [← hi, e]
    exact hxs
  · have hne : tix a f m ≠ ix := by
      rw [hi]
      unfold tix
      omega
    rw [ft _ hne]
    exact H a f m h1 h2 h3 h4 h5 (by omega)
end TBW
/-! ===== one tree: what waits to be told ===== -/
def SS (f : Nat → Int) : Nat → Int
  | 0 => 0
  | j + 1 => SS f j + f j
theorem SS_e {f g : Nat → Int} : ∀ w : Nat, (∀ j, j < w → g j = f j) → SS g w = SS f w
  | 0, _ => rfl
  | w + 1, h => by
    show SS g w + g w = SS f w + f w
    rw [SS_e w (fun j hj => h j (by omega)), h w (by omega)]
theorem SS_ge {f : Nat → Int} : ∀ w : Nat, (∀ j, j < w → 1 ≤ f j) → (w : Int) ≤ SS f w
  | 0, _ => Int.le_refl _
  | w + 1, h => by
    have h1 := SS_ge w (fun j hj => h j (by omega))
    have h2 := h w (by omega)
    show ((w + 1 : Nat) : Int) ≤ SS f w + f w
    omega
theorem SS_s {f : Nat → Int} {w w' : Nat} (h : w' = w + 1) : SS f w' = SS f w + f w := by
  subst h
  rfl
def ST1 (h q : ah_T) (j : Nat) : Prop := (0 ≤ q.2.1 232 j ∧ q.2.1 232 j ≤ 15) ∧ 0 ≤ q.2.1 233 j ∧ 1 ≤ q.2.1 234 j ∧ q.2.1 233 j + q.2.1 234 j ≤ h.2.1 181 0 ∧ 0 ≤ q.2.2.1 235 j ∧ q.2.2.1 235 j < h.2.2.1 231 (tix (q.2.1 232 j) (q.2.1 233 j) (q.2.1 234 j))
def ST (h q : ah_T) (w : Int) : Prop := 0 ≤ w ∧ (∀ j : Nat, (j : Int) < w → ST1 h q j) ∧ SS (q.2.1 234) w.toNat ≤ 12
theorem ST_w {h q : ah_T} {w : Int} (H : ST h q w) : w ≤ SS (q.2.1 234) w.toNat := by
  obtain ⟨h0, h1, h2⟩ := H
  have := SS_ge (f := q.2.1 234) w.toNat (fun j hj => (h1 j (by omega)).2.2.1)
  omega
/-- one is taken away -/
theorem ST_pop {h q : ah_T} {w : Int} (H : ST h q w) (hw : 1 ≤ w) : ST h q (w - 1) ∧ SS (q.2.1 234) w.toNat = SS (q.2.1 234) (w - 1).toNat + q.2.1 234 (w - 1).toNat ∧ ST1 h q (w - 1).toNat := by
  obtain ⟨h0, h1, h2⟩ := H
  have h3 : SS (q.2.1 234) w.toNat = SS (q.2.1 234) (w - 1).toNat + q.2.1 234 (w - 1).toNat := SS_s (by omega)
  have h4 := h1 (w - 1).toNat (by omega)
  exact ⟨⟨by omega, fun j hj => h1 j (by omega), by have := h4.2.2.1; omega⟩, h3, h4⟩
/-- two are laid -/
theorem ST_2 {h q q' : ah_T} {w s : Int} {i0 i1 : Nat} (H : ST h q w) (e0 : (i0 : Int) = w) (e1 : (i1 : Int) = w + 1) (hs : SS (q.2.1 234) w.toNat + s ≤ 12) (f : ∀ a, a ∈ [232, 233, 234] → ∀ j, j ≠ i0 → j ≠ i1 → q'.2.1 a j = q.2.1 a j) (fl : ∀ j, j ≠ i0 → j ≠ i1 → q'.2.2.1 235 j = q.2.2.1 235 j)
    (h1 : ST1 h q' i0) (h2 : ST1 h q' i1) (es : q'.2.1 234 i0 + q'.2.1 234 i1 = s) : ST h q' (w + 2) ∧ SS (q'.2.1 234) (w + 2).toNat = SS (q.2.1 234) w.toNat + s := by
  obtain ⟨g0, g1, g2⟩ := H
  have k1 : SS (q'.2.1 234) (w + 2).toNat = SS (q'.2.1 234) i1 + q'.2.1 234 i1 := SS_s (by omega)
  have k2 : SS (q'.2.1 234) i1 = SS (q'.2.1 234) i0 + q'.2.1 234 i0 := SS_s (by omega)
  have k3 : SS (q'.2.1 234) i0 = SS (q.2.1 234) i0 := SS_e i0 (fun j hj => f 234 (by decide) j (by omega) (by omega))
  have k4 : w.toNat = i0 := by omega
  rw [k4] at hs ⊢
  refine ⟨⟨by omega, fun j hj => ?_, by omega⟩, by omega⟩
  by_cases c0 : j = i0
  · rw [c0]; exact h1
  · by_cases c1 : j = i1
    · rw [c1]; exact h2
    · have g := g1 j (by omega)
      unfold ST1 at g ⊢
      rw [f 232 (by decide) j c0 c1, f 233 (by decide) j c0 c1, f 234 (by decide) j c0 c1, fl j c0 c1]
      exact g
/-- a rule and a cut that are found -/
def FD (h : ah_T) (a f n r l wh : Int) : Prop := (0 ≤ r ∧ r < h.2.1 177 0) ∧ h.2.1 178 r.toNat = a ∧ (1 ≤ l ∧ l ≤ cuts h r.toNat n) ∧ 0 ≤ wh ∧ wh < BR h r.toNat f n l
theorem FD_2 {h : ah_T} {a f n r l wh R : Int} (hx : mi h) (H : FD h a f n r l wh) (h0 : 0 ≤ h.2.1 180 r.toNat) (hR : R = h.2.2.1 231 (tix (h.2.1 180 r.toNat) (f + l) (n - l))) : 1 ≤ R ∧ wh / R < h.2.2.1 231 (tix (h.2.1 179 r.toNat) f l) := by
  obtain ⟨-, -, -, h4, h5⟩ := H
  unfold BR at h5
  rw [if_neg (by omega), ← hR] at h5
  have h6 := cap_le (h.2.2.1 231 (tix (h.2.1 179 r.toNat) f l) * R)
  have l1 : 0 ≤ h.2.2.1 231 (tix (h.2.1 179 r.toNat) f l) ∧ h.2.2.1 231 (tix (h.2.1 179 r.toNat) f l) ≤ 1000001 := mi_l hx (by decide) (rfl : mq 231 _ = (0, 1000001))
  have l2 : 0 ≤ R ∧ R ≤ 1000001 := by rw [hR]; exact mi_l hx (by decide) (rfl : mq 231 _ = (0, 1000001))
  have h7 : 1 ≤ R := by
    rcases Int.lt_or_le R 1 with c | c
    · have : R = 0 := by omega
      rw [this, Int.mul_zero] at h6 h5
      omega
    · exact c
  exact ⟨h7, Int.ediv_lt_of_lt_mul (by omega) (by omega)⟩
/-- the search among rules: what is left of which -/
def FQ (h : ah_T) (a f n here r l wh W : Int) (P : Int) : Prop := (here = 0 ∧ 0 ≤ wh ∧ wh + P = W) ∨ (here = 1 ∧ FD h a f n r l wh)
theorem TP_r {q q' : ah_T} (T : TT q) (h1 : 1 ≤ q.2.1 177 0) (h2 : 1 ≤ q.2.1 181 0) (K : RK q q') (et : q'.2.2.1 231 = q.2.2.1 231) (hx : mi q) (hr : q'.2.1 170 98 ≤ q.2.2.1 231 (tix (q.2.1 178 0) 0 (q.2.1 181 0))) : TP q' := by
  have r1 := mi_g hx (by decide) (rfl : mr 177 0 = (0, 24))
  have r2 := mi_g hx (by decide) (rfl : mr 181 0 = (0, 12))
  obtain ⟨-, K2, K3, -, K5⟩ := id K
  intro _
  refine ⟨by omega, by omega, by rw [(K2 0 (by decide)).1, K5, et]; exact hr, fun a f n a1 a2 f1 n1 fn => ?_⟩
  rw [K5] at fn
  rw [K3, RS_e K et (by omega) _ (by omega), et]
  exact T a f n a1 a2 f1 n1 fn
theorem ST_i {h q : ah_T} {k : Int} (hx : mi h) (t1 : 1 ≤ h.2.1 181 0) (hR : 0 ≤ h.2.1 178 0) (e1 : q.2.1 232 0 = h.2.1 178 0) (e2 : q.2.1 233 0 = 0) (e3 : q.2.1 234 0 = h.2.1 181 0) (e4 : q.2.2.1 235 0 = k) (k0 : 0 ≤ k) (k1 : k < h.2.2.1 231 (tix (h.2.1 178 0) 0 (h.2.1 181 0))) : ST h q 1 := by
  have r1 := mi_g hx (by decide) (rfl : mr 178 0 = (-2, 15))
  have r2 := mi_g hx (by decide) (rfl : mr 181 0 = (0, 12))
  refine ⟨by decide, fun j hj => ?_, ?_⟩
  · have hj0 : j = 0 := by omega
    subst hj0
    unfold ST1
    rw [e1, e2, e3, e4]
    exact ⟨⟨hR, r1.2⟩, by decide, t1, by omega, k0, k1⟩
  · show (0 : Int) + q.2.1 234 0 ≤ 12
    rw [e3]
    omega
theorem FQ_0 {h : ah_T} {a f n r l W : Int} (hW : 0 ≤ W) : FQ h a f n 0 r l W W (RS h a f n ((0 : Int)).toNat) := Or.inl ⟨rfl, hW, Int.add_zero W⟩
theorem FQ_f {h : ah_T} {a f n here r l wh W P : Int} (H : FQ h a f n here r l wh W P) (hh : here = 0 → W < P) : FD h a f n r l wh := by
  rcases H with ⟨h1, h2, h3⟩ | ⟨-, h2⟩
  · have := hh h1
    omega
  · exact h2
theorem FQ_s {h : ah_T} {a f n here r l wh W P P' : Int} (H : FQ h a f n here r l wh W P) (hp : here = 0 → P' = P) : FQ h a f n here r l wh W P' := by
  rcases H with ⟨h1, h2, h3⟩ | q
  · exact Or.inl ⟨h1, h2, by rw [hp h1]; exact h3⟩
  · exact Or.inr q
