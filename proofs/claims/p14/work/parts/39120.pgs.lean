/-! ===== page: distinct times of a bar are counted by their first events ===== -/
section
variable {μ : pm_T} {b : Nat}
theorem tm_lt {o i v e : Nat} (GG : GM μ) (ho : (o : Int) < μ 0 7) (hv : (v : Int) < μ 0 7) (hi : brE μ o b ≤ i) (hi2 : (i : Int) ≤ μ (10 + o) 0) (he : brE μ v b ≤ e) (he2 : (e : Int) ≤ μ (10 + v) 0) : (tmL μ b o i v e ↔ xBr μ o (brE μ o b) i * yBr μ v (brE μ v b) e < xBr μ v (brE μ v b) e * yBr μ o (brE μ o b) i) ∧ (xBr μ o (brE μ o b) i * yBr μ v (brE μ v b) e = xBr μ v (brE μ v b) e * yBr μ o (brE μ o b) i → tmT μ b o i = tmT μ b v e ∧ tmB μ b o i = tmB μ b v e) := by
  have x1 := xy_b GG ho hi hi2
  have x2 := xy_b GG hv he he2
  unfold tmL tmT tmB
  generalize xBr μ o (brE μ o b) i = x at *
  generalize yBr μ o (brE μ o b) i = y at *
  generalize xBr μ v (brE μ v b) e = x' at *
  generalize yBr μ v (brE μ v b) e = y' at *
  constructor
  · obtain ⟨-, -, g, g1, gx, gy⟩ := rd_pos x1.1.1 x1.2.1
    obtain ⟨-, -, g', g1', gx', gy'⟩ := rd_pos x2.1.1 x2.2.1
    generalize rdT x y = X at *
    generalize rdB x y = Y at *
    generalize rdT x' y' = X' at *
    generalize rdB x' y' = Y' at *
    have e1 : x * y' = (g * g') * (X * Y') := by
      rw [gx, gy']
      simp only [Int.mul_assoc, Int.mul_comm, Int.mul_left_comm]
    have e2 : x' * y = (g * g') * (X' * Y) := by
      rw [gx', gy]
      simp only [Int.mul_assoc, Int.mul_comm, Int.mul_left_comm]
    have gg : 0 < g * g' := Int.mul_pos (by omega) (by omega)
    rw [e1, e2]
    exact ⟨fun w => Int.mul_lt_mul_of_pos_left w gg, fun w => Int.lt_of_mul_lt_mul_left w (Int.le_of_lt gg)⟩
  · intro eq
    have a := rd_mul (g := y') (m := x) (n := y) x2.2.1
    have c := rd_mul (g := y) (m := x') (n := y') x1.2.1
    rw [Int.mul_comm y' x, Int.mul_comm y' y, eq] at a
    rw [Int.mul_comm y x'] at c
    exact ⟨a.1.symm.trans c.1, a.2.symm.trans c.2⟩
theorem tm_s {o i j : Nat} (GG : GM μ) (ho : (o : Int) < μ 0 7) (hi : brE μ o b ≤ i) (hij : i < j) (hj : (j : Int) ≤ μ (10 + o) 0) : tmL μ b o i o j := by
  rw [(tm_lt GG ho ho hi (by omega) (by omega) hj).1]
  have l := GM_l GG ho hij hj
  have b0 := GM_b GG ho (brE μ o b)
  unfold SL at l
  unfold xBr yBr
  generalize smT μ o i = Ti at *
  generalize smB μ o i = Bi at *
  generalize smT μ o j = Tj at *
  generalize smB μ o j = Bj at *
  generalize smT μ o (brE μ o b) = T0 at *
  generalize smB μ o (brE μ o b) = B0 at *
  have u : 0 < B0 * B0 := Int.mul_pos (by omega) (by omega)
  have m := Int.mul_lt_mul_of_pos_right l u
  rw [Int.sub_mul, Int.sub_mul]
  have e1 : Ti * B0 * (Bj * B0) = Ti * Bj * (B0 * B0) := by simp only [Int.mul_assoc, Int.mul_comm, Int.mul_left_comm]
  have e2 : Tj * B0 * (Bi * B0) = Tj * Bi * (B0 * B0) := by simp only [Int.mul_assoc, Int.mul_comm, Int.mul_left_comm]
  have e3 : T0 * Bi * (Bj * B0) = T0 * Bj * (Bi * B0) := by simp only [Int.mul_assoc, Int.mul_comm, Int.mul_left_comm]
  omega
theorem tm_t {o i v e w f : Nat} (h1 : 1 ≤ tmB μ b o i) (h2 : 1 ≤ tmB μ b v e) (h3 : 1 ≤ tmB μ b w f) (a : tmL μ b o i v e) (c : tmL μ b v e w f) : tmL μ b o i w f := fr_ll h2 h1 h3 a (Int.le_of_lt c)
/-- the end of voice v's events of the bar -/
noncomputable def tnd (μ : pm_T) (b v : Nat) : Nat := dif ((v : Int) < μ 0 7 ∧ (b : Int) < μ (10 + v) 1) (brE μ v (b + 1)) 0
theorem act_t {v i : Nat} : act μ b v i ↔ i < tnd μ b v := by
  unfold act tnd
  by_cases c : (v : Int) < μ 0 7 ∧ (b : Int) < μ (10 + v) 1
  · rw [dif_t c]
    exact ⟨fun w => w.2.2, fun w => ⟨c.1, c.2, w⟩⟩
  · rw [dif_f c]
    exact ⟨fun w => absurd ⟨w.1, w.2.1⟩ c, fun w => by omega⟩
/-- no earlier voice has an event of the bar at this time -/
def Fst (μ : pm_T) (b v e : Nat) : Prop := ¬ ∃ o f, o < v ∧ act μ b o f ∧ brE μ o b ≤ f ∧ tmT μ b o f = tmT μ b v e ∧ tmB μ b o f = tmB μ b v e
noncomputable def rkC (F : Nat → Prop) (t : Nat) : Nat → Nat
  | 0 => 0
  | k + 1 => rkC F t k + dif (F (t - (k + 1))) 1 0
theorem rkC_l {F : Nat → Prop} {t : Nat} : ∀ k, rkC F t k ≤ k
  | 0 => Nat.le_refl _
  | k + 1 => by
    have := rkC_l (F := F) (t := t) k
    rw [rkC]
    by_cases c : F (t - (k + 1))
    · rw [dif_t c]; omega
    · rw [dif_f c]; omega
noncomputable def Nf (μ : pm_T) (b v i : Nat) : Nat := rkC (Fst μ b v) (tnd μ b v) (tnd μ b v - i)
theorem Nf_s {v i : Nat} (h : act μ b v i) : Nf μ b v i = Nf μ b v (i + 1) + dif (Fst μ b v i) 1 0 := by
  have h := act_t.mp h
  unfold Nf
  rw [show tnd μ b v - i = (tnd μ b v - (i + 1)) + 1 by omega, rkC, show tnd μ b v - (tnd μ b v - (i + 1) + 1) = i by omega]
theorem Nf_0 {v i : Nat} (h : ¬ act μ b v i) : Nf μ b v i = 0 := by
  rw [act_t] at h
  unfold Nf
  rw [show tnd μ b v - i = 0 by omega]
  rfl
noncomputable def Rem4 (μ : pm_T) (b : Nat) (p : Nat → Nat) : Nat := Nf μ b 0 (p 0) + Nf μ b 1 (p 1) + Nf μ b 2 (p 2) + Nf μ b 3 (p 3)
/-- what was passed lies before all that stands -/
def Past (μ : pm_T) (b : Nat) (p : Nat → Nat) : Prop := (∀ o, o < 4 → act μ b o (p o) → brE μ o b ≤ p o) ∧ ∀ o, o < 4 → ∀ f, brE μ o b ≤ f → f < p o → act μ b o f → ∀ v, v < 4 → act μ b v (p v) → tmL μ b o f v (p v)
theorem act_b {o i : Nat} (GG : GM μ) (h : act μ b o i) : (i : Int) + 1 ≤ μ (10 + o) 0 := by
  have e1 := brE_b GG (b := b + 1) h.1
  have := h.2.2
  omega
theorem act_tm {o i : Nat} (GG : GM μ) (h : act μ b o i) (hi : brE μ o b ≤ i) : 1 ≤ tmB μ b o i := (tm_b GG h.1 hi (by have := act_b GG h; omega)).2.1
theorem tm_3 {o i v e : Nat} (GG : GM μ) (ha : act μ b o i) (hi : brE μ o b ≤ i) (hb : act μ b v e) (he : brE μ v b ≤ e) (n1 : ¬ tmL μ b o i v e) (n2 : ¬ (tmT μ b o i = tmT μ b v e ∧ tmB μ b o i = tmB μ b v e)) : tmL μ b v e o i := by
  have b1 := act_b GG ha
  have b2 := act_b GG hb
  have t1 := tm_lt (b := b) GG ha.1 hb.1 hi (by omega) he (by omega)
  have t2 := tm_lt (b := b) GG hb.1 ha.1 he (by omega) hi (by omega)
  rw [t2.1]
  rw [t1.1] at n1
  have := fun w => n2 (t1.2 w)
  omega
/-- a turn takes one from the count -/
theorem Rem_turn {p : Nat → Nat} {m : Nat} (GG : GM μ) (P : Past μ b p) (hm : m < 4) (hA : act μ b m (p m)) (er : ∀ o, o < 4 → act μ b o (p o) → ¬ tmL μ b o (p o) m (p m)) : Rem4 μ b p = Rem4 μ b (pasP μ b (tmT μ b m (p m)) (tmB μ b m (p m)) p) + 1 ∧ Past μ b (pasP μ b (tmT μ b m (p m)) (tmB μ b m (p m)) p) := by
  obtain ⟨P0, P1⟩ := P
  have at_ : ∀ v, pasP μ b (tmT μ b m (p m)) (tmB μ b m (p m)) p v = dif (act μ b v (p v) ∧ tmT μ b v (p v) = tmT μ b m (p m) ∧ tmB μ b v (p v) = tmB μ b m (p m)) (p v + 1) (p v) := fun v => rfl
  generalize pasP μ b (tmT μ b m (p m)) (tmB μ b m (p m)) p = p' at *
  have L1 : ∀ v, v < 4 → (act μ b v (p v) ∧ tmT μ b v (p v) = tmT μ b m (p m) ∧ tmB μ b v (p v) = tmB μ b m (p m)) → (∀ o, o < v → ¬ (act μ b o (p o) ∧ tmT μ b o (p o) = tmT μ b m (p m) ∧ tmB μ b o (p o) = tmB μ b m (p m))) → Fst μ b v (p v) := by
    rintro v v4 ⟨a1, a2, a3⟩ no ⟨o, f, ov, of, obf, oT, oB⟩
    have eqm : tmT μ b o f = tmT μ b m (p m) ∧ tmB μ b o f = tmB μ b m (p m) := ⟨oT.trans a2, oB.trans a3⟩
    by_cases c1 : f < p o
    · have := P1 o (by omega) f obf c1 of m hm hA
      unfold tmL at this
      rw [eqm.1, eqm.2] at this
      omega
    · by_cases c2 : f = p o
      · subst c2
        exact no o ov ⟨of, eqm⟩
      · have ao : act μ b o (p o) := ⟨of.1, of.2.1, by have := of.2.2; omega⟩
        have := tm_s (b := b) GG of.1 (P0 o (by omega) ao) (show p o < f by omega) (by have := act_b GG of; omega)
        refine er o (by omega) ao ?_
        unfold tmL at this ⊢
        rw [eqm.1, eqm.2] at this
        exact this
  have L2 : ∀ o v, o < v → v < 4 → (act μ b o (p o) ∧ tmT μ b o (p o) = tmT μ b m (p m) ∧ tmB μ b o (p o) = tmB μ b m (p m)) → (act μ b v (p v) ∧ tmT μ b v (p v) = tmT μ b m (p m) ∧ tmB μ b v (p v) = tmB μ b m (p m)) → ¬ Fst μ b v (p v) := by
    rintro o v ov v4 ⟨a1, a2, a3⟩ ⟨c1, c2, c3⟩ w
    exact w ⟨o, p o, ov, a1, P0 o (by omega) a1, a2.trans c2.symm, a3.trans c3.symm⟩
  have D : ∀ v, Nf μ b v (p v) = Nf μ b v (p' v) + dif ((act μ b v (p v) ∧ tmT μ b v (p v) = tmT μ b m (p m) ∧ tmB μ b v (p v) = tmB μ b m (p m)) ∧ Fst μ b v (p v)) 1 0 := by
    intro v
    rw [at_]
    by_cases c : act μ b v (p v) ∧ tmT μ b v (p v) = tmT μ b m (p m) ∧ tmB μ b v (p v) = tmB μ b m (p m)
    · rw [dif_t c, Nf_s c.1]
      by_cases c2 : Fst μ b v (p v)
      · rw [dif_t c2, dif_t ⟨c, c2⟩]
      · rw [dif_f c2, dif_f (fun w => c2 w.2)]
    · rw [dif_f c, dif_f (fun w => c w.1)]
      rfl
  have d1 : ∀ v, v < 4 → (act μ b v (p v) ∧ tmT μ b v (p v) = tmT μ b m (p m) ∧ tmB μ b v (p v) = tmB μ b m (p m)) → (∀ o, o < v → ¬ (act μ b o (p o) ∧ tmT μ b o (p o) = tmT μ b m (p m) ∧ tmB μ b o (p o) = tmB μ b m (p m))) → Nf μ b v (p v) = Nf μ b v (p' v) + 1 := fun v v4 a no => by rw [D v, dif_t ⟨a, L1 v v4 a no⟩]
  have d0 : ∀ v, v < 4 → ¬ (act μ b v (p v) ∧ tmT μ b v (p v) = tmT μ b m (p m) ∧ tmB μ b v (p v) = tmB μ b m (p m)) → Nf μ b v (p v) = Nf μ b v (p' v) := fun v v4 a => by rw [D v, dif_f (fun w => a w.1)]; rfl
  have d2 : ∀ o v, o < v → v < 4 → (act μ b o (p o) ∧ tmT μ b o (p o) = tmT μ b m (p m) ∧ tmB μ b o (p o) = tmB μ b m (p m)) → Nf μ b v (p v) = Nf μ b v (p' v) := fun o v ov v4 a => by
    by_cases c : act μ b v (p v) ∧ tmT μ b v (p v) = tmT μ b m (p m) ∧ tmB μ b v (p v) = tmB μ b m (p m)
    · rw [D v, dif_f (fun w => L2 o v ov v4 a c w.2)]; rfl
    · exact d0 v v4 c
  have Am : act μ b m (p m) ∧ tmT μ b m (p m) = tmT μ b m (p m) ∧ tmB μ b m (p m) = tmB μ b m (p m) := ⟨hA, rfl, rfl⟩
  refine ⟨?_, fun o o4 a => ?_, fun o o4 f obf fp of v v4 av => ?_⟩
  · unfold Rem4
    by_cases a0 : act μ b 0 (p 0) ∧ tmT μ b 0 (p 0) = tmT μ b m (p m) ∧ tmB μ b 0 (p 0) = tmB μ b m (p m)
    · have := d1 0 (by decide) a0 (fun o ho => by omega)
      have := d2 0 1 (by decide) (by decide) a0
      have := d2 0 2 (by decide) (by decide) a0
      have := d2 0 3 (by decide) (by decide) a0
      omega
    have e0 := d0 0 (by decide) a0
    by_cases a1 : act μ b 1 (p 1) ∧ tmT μ b 1 (p 1) = tmT μ b m (p m) ∧ tmB μ b 1 (p 1) = tmB μ b m (p m)
    · have := d1 1 (by decide) a1 (fun o ho => by rcases (show o = 0 ∨ o = 0 by omega) with rfl | rfl <;> assumption)
      have := d2 1 2 (by decide) (by decide) a1
      have := d2 1 3 (by decide) (by decide) a1
      omega
    have e1 := d0 1 (by decide) a1
    by_cases a2 : act μ b 2 (p 2) ∧ tmT μ b 2 (p 2) = tmT μ b m (p m) ∧ tmB μ b 2 (p 2) = tmB μ b m (p m)
    · have := d1 2 (by decide) a2 (fun o ho => by rcases (show o = 0 ∨ o = 1 by omega) with rfl | rfl <;> assumption)
      have := d2 2 3 (by decide) (by decide) a2
      omega
    have e2 := d0 2 (by decide) a2
    have m3 : m = 3 := by
      by_cases c0 : m = 0
      · subst c0; exact absurd Am a0
      by_cases c1 : m = 1
      · subst c1; exact absurd Am a1
      by_cases c2 : m = 2
      · subst c2; exact absurd Am a2
      omega
    subst m3
    have := d1 3 (by decide) Am (fun o ho => by rcases (show o = 0 ∨ o = 1 ∨ o = 2 by omega) with rfl | rfl | rfl <;> assumption)
    omega
  · rw [at_] at a ⊢
    by_cases c : act μ b o (p o) ∧ tmT μ b o (p o) = tmT μ b m (p m) ∧ tmB μ b o (p o) = tmB μ b m (p m)
    · rw [dif_t c]
      have := P0 o o4 c.1
      omega
    · rw [dif_f c] at a ⊢
      exact P0 o o4 a
  · have bf := act_tm GG of obf
    -- what stood before
    have avp : act μ b v (p v) := by
      rw [at_] at av
      by_cases c : act μ b v (p v) ∧ tmT μ b v (p v) = tmT μ b m (p m) ∧ tmB μ b v (p v) = tmB μ b m (p m)
      · exact c.1
      · rw [dif_f c] at av; exact av
    have pv := P0 v v4 avp
    have bv := act_tm GG avp pv
    have bv2 : brE μ v b ≤ p' v := by
      rw [at_]
      by_cases c : act μ b v (p v) ∧ tmT μ b v (p v) = tmT μ b m (p m) ∧ tmB μ b v (p v) = tmB μ b m (p m)
      · rw [dif_t c]; omega
      · rw [dif_f c]; exact pv
    have bv3 := act_tm GG av bv2
    -- event f was passed before, or just now
    by_cases fo : f < p o
    · have old := P1 o o4 f obf fo of v v4 avp
      rw [at_] at av bv3 ⊢
      by_cases c : act μ b v (p v) ∧ tmT μ b v (p v) = tmT μ b m (p m) ∧ tmB μ b v (p v) = tmB μ b m (p m)
      · rw [dif_t c] at av bv3 ⊢
        exact tm_t bf bv bv3 old (tm_s GG avp.1 pv (Nat.lt_succ_self _) (by have := act_b GG av; omega))
      · rw [dif_f c]; exact old
    · rw [at_] at fp
      by_cases co : act μ b o (p o) ∧ tmT μ b o (p o) = tmT μ b m (p m) ∧ tmB μ b o (p o) = tmB μ b m (p m)
      · rw [dif_t co] at fp
        obtain rfl : f = p o := by omega
        have tr : ∀ {w g : Nat}, tmL μ b m (p m) w g → tmL μ b o (p o) w g := fun h => by
          unfold tmL at h ⊢
          rw [co.2.1, co.2.2]
          exact h
        refine tr ?_
        rw [at_] at av ⊢
        by_cases c : act μ b v (p v) ∧ tmT μ b v (p v) = tmT μ b m (p m) ∧ tmB μ b v (p v) = tmB μ b m (p m)
        · rw [dif_t c] at av ⊢
          have := tm_s GG avp.1 pv (Nat.lt_succ_self _) (by have := act_b GG av; omega)
          unfold tmL at this ⊢
          rw [← c.2.1, ← c.2.2]
          exact this
        · rw [dif_f c]
          exact tm_3 GG avp pv hA (P0 m hm hA) (er v v4 avp) (fun w => c ⟨avp, w⟩)
      · rw [dif_f co] at fp
        exact absurd fp fo
end
