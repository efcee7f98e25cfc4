/-! ===== trees: how many readings there are, told by rules ===== -/
def tix (a f n : Int) : Nat := ((a * 13 + f) * 13 + n).toNat
def cap (v : Int) : Int := if v > 1000001 then 1000001 else v
def BR (h : ah_T) (r : Nat) (f n l : Int) : Int := if h.2.1 180 r < 0 then (if n = 1 ∧ h.2.1 182 f.toNat = h.2.1 179 r then 1 else 0) else cap (h.2.2.1 231 (tix (h.2.1 179 r) f l) * h.2.2.1 231 (tix (h.2.1 180 r) (f + l) (n - l)))
def CS (h : ah_T) (r : Nat) (f n : Int) : Nat → Int
  | 0 => 0
  | c + 1 => CS h r f n c + BR h r f n ((c : Int) + 1)
def cuts (h : ah_T) (r : Nat) (n : Int) : Int := if h.2.1 180 r < 0 then 1 else n - 1
def RS (h : ah_T) (a f n : Int) : Nat → Int
  | 0 => 0
  | r + 1 => RS h a f n r + (if h.2.1 178 r = a then CS h r f n (cuts h r n).toNat else 0)
def TT (h : ah_T) : Prop := ∀ a f n : Int, 0 ≤ a → a ≤ 15 → 0 ≤ f → 1 ≤ n → f + n ≤ h.2.1 181 0 → h.2.2.1 231 (tix a f n) ≤ RS h a f n (h.2.1 177 0).toNat
def TP (h : ah_T) : Prop := 0 < h.2.1 170 98 → 1 ≤ h.2.1 177 0 ∧ 1 ≤ h.2.1 181 0 ∧ h.2.1 170 98 ≤ h.2.2.1 231 (tix (h.2.1 178 0) 0 (h.2.1 181 0)) ∧ TT h
theorem BR_e {h q : ah_T} (H : RK h q) (et : q.2.2.1 231 = h.2.2.1 231) {r : Nat} (hr : r < 24) {f n l : Int} (hf : f.toNat < 12) : BR q r f n l = BR h r f n l := by
  obtain ⟨-, H2, -, H4, -⟩ := H
  obtain ⟨-, y2, y3⟩ := H2 r hr
  unfold BR
  rw [y2, y3, H4 _ hf, et]
theorem CS_e {h q : ah_T} (H : RK h q) (et : q.2.2.1 231 = h.2.2.1 231) {r : Nat} (hr : r < 24) {f n : Int} (hf : f.toNat < 12) : ∀ c, CS q r f n c = CS h r f n c
  | 0 => rfl
  | c + 1 => by
    show CS q r f n c + BR q r f n _ = CS h r f n c + BR h r f n _
    rw [CS_e H et hr hf c, BR_e H et hr hf]
theorem cuts_e {h q : ah_T} (H : RK h q) {r : Nat} (hr : r < 24) {n : Int} : cuts q r n = cuts h r n := by
  unfold cuts
  rw [(H.2.1 r hr).2.2]
theorem RS_e {h q : ah_T} (H : RK h q) (et : q.2.2.1 231 = h.2.2.1 231) {a f n : Int} (hf : f.toNat < 12) : ∀ r, r ≤ 24 → RS q a f n r = RS h a f n r
  | 0, _ => rfl
  | r + 1, hr => by
    show RS q a f n r + (if q.2.1 178 r = a then CS q r f n (cuts q r n).toNat else 0) = RS h a f n r + (if h.2.1 178 r = a then CS h r f n (cuts h r n).toNat else 0)
    rw [RS_e H et hf r (by omega), (H.2.1 r (by omega)).1, CS_e H et (by omega) hf, cuts_e H (by omega)]
theorem TP_e {h q : ah_T} (hx : mi h) (H : RK h q) (et : q.2.2.1 231 = h.2.2.1 231) (ec : q.2.1 170 98 = h.2.1 170 98) (T : TP h) : TP q := by
  have r1 := mi_g hx (by decide) (rfl : mr 177 0 = (0, 24))
  have r2 := mi_g hx (by decide) (rfl : mr 181 0 = (0, 12))
  intro h0
  rw [ec] at h0
  obtain ⟨t1, t2, t3, t4⟩ := T h0
  obtain ⟨-, H2, H3, -, H5⟩ := id H
  refine ⟨by omega, by omega, ?_, fun a f n a1 a2 f1 n1 fn => ?_⟩
  · rw [ec, (H2 0 (by decide)).1, H5, et]
    exact t3
  · rw [H5] at fn
    rw [H3, RS_e H et (by omega) _ (by omega), et]
    exact t4 a f n a1 a2 f1 n1 fn
/-- what holds between calls -/
def PX (h : ah_T) : Prop := KS h ∧ KO h ∧ RL h ∧ TP h ∧ h.2.1 170 80 ≤ 8000
theorem PX_p {h q : ah_T} (hx : mi h) (H : PX h) (Hp : PP h q) (e231 : q.2.2.1 231 = h.2.2.1 231) (e98 : q.2.1 170 98 = h.2.1 170 98) (e80 : q.2.1 170 80 = h.2.1 170 80) : PX q := by
  obtain ⟨h1, h2, h3, h4, h5⟩ := H
  obtain ⟨y1, y2, y3⟩ := PP_K hx Hp h1 h2 h3
  exact ⟨y1, y2, y3, TP_e hx Hp.2 e231 e98 h4, by omega⟩
theorem PX_z {q : ah_T} (H : KS q ∧ KO q ∧ RL q) (e98 : q.2.1 170 98 = 0) (e80 : q.2.1 170 80 ≤ 8000) : PX q := ⟨H.1, H.2.1, H.2.2, fun h0 => by omega, e80⟩
theorem PP_k {P : Nat → Nat → Bool} {q q' : ah_T} (kn : kM P q q') (hP : SAP P) (hQ : ∀ a, a ∈ [172, 177, 178, 179, 180, 181, 182] → ∀ j, P a j = false) : PP q q' := by
  have f : ∀ a, a ∈ [172, 177, 178, 179, 180, 181, 182] → ∀ j, q'.2.1 a j = q.2.1 a j := fun a ha j => kn.2.2.1 a j (hQ a ha j)
  exact ⟨LF_a (SA_k kn hP), f 172 (by decide) 0, fun k _ => ⟨f 178 (by decide) k, f 179 (by decide) k, f 180 (by decide) k⟩, f 177 (by decide) 0, fun k _ => f 182 (by decide) k, f 181 (by decide) 0⟩
/-- a method that writes nothing of that -/
theorem PX_k {P : Nat → Nat → Bool} {q q' : ah_T} (H : PX q) (hx : mi q) (kn : kM P q q') (hP : SAP P) (hQ : ∀ a, a ∈ [172, 177, 178, 179, 180, 181, 182] → ∀ j, P a j = false) (p1 : ∀ j, P 231 j = false) (p2 : P 170 98 = false) (p3 : P 170 80 = false) : PX q' :=
  PX_p hx H (PP_k kn hP hQ) (funext fun j => kn.2.2.2 231 j (p1 j)) (kn.2.2.1 170 98 p2) (kn.2.2.1 170 80 p3)
