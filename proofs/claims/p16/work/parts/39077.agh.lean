/-! ===== two heaps that tell one: the cells that are there ===== -/
def isIT (t : FieldType) : Bool := match t with
  | .long => false
  | .object _ => false
  | .array _ => false
  | _ => true
def icb (a k : Nat) : Bool := match sh_L[a]? with
  | some (0, n) => decide (k < n)
  | some (2, n) => decide (k < n)
  | some (c + 4, n) => decide (k < n) && isIT (f_ty c k)
  | _ => false
def lcb (a k : Nat) : Bool := match sh_L[a]? with
  | some (1, n) => decide (k < n)
  | _ => false
def rcb (a k : Nat) : Bool := match sh_L[a]? with
  | some (c + 4, n) => decide (k < n) && (match f_ty c k with
    | .object _ => true
    | _ => false)
  | _ => false
def agI (h1 h2 : ah_T) : Prop := ∀ a k, icb a k = true → h2.2.1 a k = h1.2.1 a k
def agL (h1 h2 : ah_T) : Prop := ∀ a k, lcb a k = true → h2.2.2.1 a k = h1.2.2.1 a k
def agR (h1 h2 : ah_T) : Prop := ∀ a k, rcb a k = true → h2.2.2.2 a k = h1.2.2.2 a k
theorem arrV_eq {c1 c2 : ClassId} {n k : Nat} {f g : Nat → Value} (e : arrV c1 n f = arrV c2 n g) (hk : k < n) : f k = g k := by
  have h1 := arrV_read c1 f hk
  rw [e, arrV_read c2 g hk] at h1
  exact (Option.some.inj h1).symm
theorem ob_eq {o n k : Nat} {cC : ClassId} {iS : Nat → Nat} {H : Heap} {V W : Nat → Value} (h1 : t_OB o cC n iS H V) (h2 : t_OB o cC n iS H W) (hk : k < n) : V k = W k := by
  obtain ⟨c1, e1, -, -, q1⟩ := h1
  obtain ⟨c2, e2, -, -, q2⟩ := h2
  rw [e1] at e2
  obtain rfl := Option.some.inj e2
  have := q1 k hk
  rw [q2 k hk] at this
  exact (Option.some.inj this).symm
theorem fv_i {b : Nat} {t : FieldType} {fi fl : Nat → Int} {fr : Nat → Option Nat} {k : Nat} (h : isIT t = true) : fv_V b t fi fl fr k = .int (Int32.ofInt (fi k)) := by
  unfold isIT at h
  cases t <;> first | rfl | (simp at h; done)
theorem agI_of {G : cx_T} {h1 h2 : ah_T} (e1 : h1.1 = sh_L) (e2 : h2.1 = sh_L) (S : sameH G h1 h2) : agI h1 h2 := by
  obtain ⟨t, ⟨-, C1, -, r1, -⟩, ⟨-, C2, -, r2, -⟩⟩ := S
  intro a k hk
  have fin : (Value.int (Int32.ofInt (h2.2.1 a k))) = .int (Int32.ofInt (h1.2.1 a k)) → h2.2.1 a k = h1.2.1 a k := fun e => (i32_eq (r2 a k) (r1 a k)).mp (by injection e)
  unfold icb at hk
  split at hk
  · rename_i n hs
    have c1 : _ = _ := C1 a 0 n (by rw [e1]; exact hs)
    have c2 : _ = _ := C2 a 0 n (by rw [e2]; exact hs)
    rw [c1] at c2
    exact fin (arrV_eq (Option.some.inj c2) (of_decide_eq_true hk)).symm
  · rename_i n hs
    have c1 := (show _ ∧ _ from C1 a 2 n (by rw [e1]; exact hs)).1
    have c2 := (show _ ∧ _ from C2 a 2 n (by rw [e2]; exact hs)).1
    rw [c1] at c2
    exact fin (arrV_eq (Option.some.inj c2) (of_decide_eq_true hk)).symm
  · rename_i c n hs
    rw [Bool.and_eq_true] at hk
    obtain ⟨_, -, -, c1, -⟩ := (show ∃ r : vw_C, _ from C1 a (c + 4) n (by rw [e1]; exact hs))
    obtain ⟨_, -, -, c2, -⟩ := (show ∃ r : vw_C, _ from C2 a (c + 4) n (by rw [e2]; exact hs))
    have e := ob_eq c2 c1 (of_decide_eq_true hk.1)
    rw [fv_i hk.2, fv_i hk.2] at e
    exact fin e
  · exact absurd hk (by decide)
theorem agL_of {G : cx_T} {h1 h2 : ah_T} (e1 : h1.1 = sh_L) (e2 : h2.1 = sh_L) (S : sameH G h1 h2) : agL h1 h2 := by
  obtain ⟨t, ⟨-, C1, -, -, r1⟩, ⟨-, C2, -, -, r2⟩⟩ := S
  intro a k hk
  have fin : (Value.long (Int64.ofInt (h2.2.2.1 a k))) = .long (Int64.ofInt (h1.2.2.1 a k)) → h2.2.2.1 a k = h1.2.2.1 a k := fun e => (i64_eq (r2 a k) (r1 a k)).mp (by injection e)
  unfold lcb at hk
  split at hk
  · rename_i n hs
    have c1 : _ = _ := C1 a 1 n (by rw [e1]; exact hs)
    have c2 : _ = _ := C2 a 1 n (by rw [e2]; exact hs)
    rw [c1] at c2
    exact fin (arrV_eq (Option.some.inj c2) (of_decide_eq_true hk)).symm
  · exact absurd hk (by decide)
theorem agR_of {G : cx_T} {h1 h2 : ah_T} (e1 : h1.1 = sh_L) (e2 : h2.1 = sh_L) (S : sameH G h1 h2) : agR h1 h2 := by
  obtain ⟨t, ⟨-, C1, -, -, -⟩, ⟨-, C2, -, -, -⟩⟩ := S
  intro a k hk
  unfold rcb at hk
  split at hk
  · rename_i c n hs
    rw [Bool.and_eq_true] at hk
    obtain ⟨_, -, -, c1, -⟩ := (show ∃ r : vw_C, _ from C1 a (c + 4) n (by rw [e1]; exact hs))
    obtain ⟨_, -, -, c2, -⟩ := (show ∃ r : vw_C, _ from C2 a (c + 4) n (by rw [e2]; exact hs))
    have e := ob_eq c2 c1 (of_decide_eq_true hk.1)
    have h2' := hk.2
    split at h2'
    · rename_i t ht
      rw [ht] at e
      unfold fv_V at e
      dsimp only at e
      generalize h2.2.2.2 a k = x at *
      generalize h1.2.2.2 a k = y at *
      cases x <;> cases y <;> simp [va_rf] at e ⊢
      exact e
    · exact absurd h2' (by decide)
  · exact absurd hk (by decide)
theorem ic0 {a n k : Nat} (h : sh_L[a]? = some (0, n)) (hk : k < n) : icb a k = true := by
  unfold icb
  rw [h]
  exact decide_eq_true hk
theorem ic2 {a n k : Nat} (h : sh_L[a]? = some (2, n)) (hk : k < n) : icb a k = true := by
  unfold icb
  rw [h]
  exact decide_eq_true hk
theorem lc1 {a n k : Nat} (h : sh_L[a]? = some (1, n)) (hk : k < n) : lcb a k = true := by
  unfold lcb
  rw [h]
  exact decide_eq_true hk
theorem shV {v : Nat} (hv : isV v) : sh_L[v]? = some (14, 17) ∧ sh_L[v + 1]? = some (0, 300) ∧ sh_L[v + 2]? = some (0, 300) ∧ sh_L[v + 3]? = some (0, 301) ∧ sh_L[v + 4]? = some (0, 300) ∧ sh_L[v + 5]? = some (0, 300) ∧ sh_L[v + 6]? = some (2, 300) ∧ sh_L[v + 7]? = some (0, 300) ∧ sh_L[v + 8]? = some (0, 300) ∧ sh_L[v + 9]? = some (1, 301) ∧ sh_L[v + 10]? = some (1, 301) ∧ sh_L[v + 11]? = some (1, 300) ∧ sh_L[v + 12]? = some (1, 300) ∧ sh_L[v + 13]? = some (0, 102) := by
  rcases hv with rfl | rfl | rfl | rfl | rfl | rfl | rfl | rfl <;> decide +kernel
theorem iV {v : Nat} (hv : isV v) : icb v 14 = true ∧ icb v 16 = true := by
  rcases hv with rfl | rfl | rfl | rfl | rfl | rfl | rfl | rfl <;> decide +kernel
theorem sS {c : Nat} (hc : isS c) : (sh_L[c + 2]? = some (0, 8) ∧ sh_L[c + 3]? = some (0, 24) ∧ sh_L[c + 4]? = some (0, 24) ∧ sh_L[c + 5]? = some (0, 24) ∧ sh_L[c + 6]? = some (0, 12)) ∧ (icb c 1 = true ∧ icb c 2 = true ∧ icb c 3 = true ∧ icb c 6 = true ∧ icb c 10 = true ∧ icb c 12 = true) := by
  rcases hc with rfl | rfl <;> decide +kernel
theorem vS {c n : Nat} (hc : isS c) (hn : n < 4) : isV (c + 7 + 14 * n) := by
  unfold isV; unfold isS at hc; omega
theorem rgV {v b : Nat} (hv : isV v) : (rg (v + 3) b).2 = 300 := by
  rcases hv with rfl | rfl | rfl | rfl | rfl | rfl | rfl | rfl <;> rfl
theorem RVo_ag {μ : pm_T} {n v : Nat} {h h' : ah_T} (hv : isV v) (H : RVo μ n v h) (M : MVo μ n) (A : agI h h') (L : agL h h') (q3 : ∀ b, h'.2.1 (v + 3) b ≤ 300) : RVo μ n v h' := by
  obtain ⟨s0, s1, s2, s3, s4, s5, s6, s7, s8, s9, s10, s11, s12, s13⟩ := shV hv
  obtain ⟨i14, i16⟩ := iV hv
  obtain ⟨⟨h1, h1'⟩, ⟨h2, h2'⟩, h3, h4, h5⟩ := H
  have m1 := M.1
  have m2 := M.2.1
  refine ⟨⟨(A _ _ i14).trans h1, (A _ _ i16).trans h1'⟩, ⟨(L _ _ (lc1 s9 (by omega))).trans h2, (L _ _ (lc1 s10 (by omega))).trans h2'⟩, fun e he => ?_, fun b hb => (A _ _ (ic0 s13 (by omega))).trans (h4 b hb), (A _ _ (ic0 s13 (by omega))).trans h5⟩
  obtain ⟨b, q, y1, y2, y3, ⟨z1, z2, z3, z4⟩, ⟨u1, u2⟩, ⟨w1, w2, w3⟩, y7⟩ := h3 e he
  have a1 := (A _ _ (ic0 (k := b + 1) s3 (by omega))).trans u2
  have a2 := q3 (b + 1)
  refine ⟨b, q, y1, (A _ _ (ic0 s7 (by omega))).trans y2, (A _ _ (ic0 s8 (by omega))).trans y3, ⟨(L _ _ (lc1 s9 (by omega))).trans z1, (L _ _ (lc1 s10 (by omega))).trans z2, (L _ _ (lc1 s11 (by omega))).trans z3, (L _ _ (lc1 s12 (by omega))).trans z4⟩, ⟨(A _ _ (ic0 s3 (by omega))).trans u1, a1⟩, ⟨(A _ _ (ic2 s6 (by omega))).trans w1, (A _ _ (ic0 s4 (by omega))).trans w2, (A _ _ (ic0 s5 (by omega))).trans w3⟩, fun p hp => ?_⟩
  obtain ⟨x1, x2⟩ := y7 p hp
  exact ⟨(A _ _ (ic0 s1 (by omega))).trans x1, (A _ _ (ic0 s2 (by omega))).trans x2⟩
theorem CKn_ag {μ : pm_T} {s c : Nat} {h h' : ah_T} (hc : isS c) (H : CKn μ c h) (A : agI h h') (L : agL h h') (hx : xi s h') : CKn μ c h' := by
  obtain ⟨⟨a1, a2, a3, a4, a5, a6⟩, b, l, ru, ro, V⟩ := H
  obtain ⟨⟨s2, s3, s4, s5, s6⟩, i1, i2, i3, i6, i10, i12⟩ := sS hc
  refine ⟨⟨(A _ _ i1).trans a1, (A _ _ i2).trans a2, (A _ _ i3).trans a3, (A _ _ i6).trans a4, (A _ _ i10).trans a5, (A _ _ i12).trans a6⟩, b, fun j hj => (A _ _ (ic0 s2 (by omega))).trans (l j hj), fun j hj => ?_, fun j hj => (A _ _ (ic0 s6 (by omega))).trans (ro j hj), fun n hn => ?_⟩
  · obtain ⟨x1, x2, x3⟩ := ru j hj
    exact ⟨(A _ _ (ic0 s3 (by omega))).trans x1, (A _ _ (ic0 s4 (by omega))).trans x2, (A _ _ (ic0 s5 (by omega))).trans x3⟩
  · have hv : isV (c + 7 + 14 * n) := vS hc (by omega)
    refine ⟨RVo_ag hv (V n hn).1 (V n hn).2 A L (fun b => ?_), (V n hn).2⟩
    have hl : c + 7 + 14 * n + 3 < 170 := by unfold isV at hv; omega
    have := (hx.2.2.2.2.2.2.1 (c + 7 + 14 * n + 3) b hl).2
    rw [rgV hv] at this
    exact this
theorem KSn_ag {μ : pm_T} {h h' : ah_T} (H : KSn μ h) (A : agI h h') (L : agL h h') : KSn μ h' := by
  obtain ⟨⟨a1, a2, a3, a4⟩, ⟨b3, b4, b5, b7⟩, l, ru, ro, vo⟩ := H
  refine ⟨⟨(A _ _ (by decide +kernel)).trans a1, (A _ _ (by decide +kernel)).trans a2, (A _ _ (by decide +kernel)).trans a3, (A _ _ (by decide +kernel)).trans a4⟩, ⟨b3, b4, b5, b7⟩, fun j hj => (A 176 j (ic0 (n := 16) (by decide +kernel) (by omega))).trans (l j hj), fun j hj => ?_, fun j hj => (A 182 j (ic0 (n := 24) (by decide +kernel) (by omega))).trans (ro j hj), fun n hn => ?_⟩
  · obtain ⟨x1, x2, x3⟩ := ru j hj
    exact ⟨(A 178 j (ic0 (n := 48) (by decide +kernel) (by omega))).trans x1, (A 179 j (ic0 (n := 48) (by decide +kernel) (by omega))).trans x2, (A 180 j (ic0 (n := 48) (by decide +kernel) (by omega))).trans x3⟩
  · obtain ⟨⟨h1, h1'⟩, h2, h3, h4, h5, h6⟩ := vo n hn
    refine ⟨⟨(A 185 n (ic0 (n := 8) (by decide +kernel) (by omega))).trans h1, (A 186 n (ic0 (n := 8) (by decide +kernel) (by omega))).trans h1'⟩, h2, fun e he => ?_, fun b hb => ?_, (L 199 _ (lc1 (n := 816) (by decide +kernel) (by omega))).trans h5, (L 200 _ (lc1 (n := 816) (by decide +kernel) (by omega))).trans h6⟩
    · obtain ⟨⟨y1, y2, y3, y4, y5, y6⟩, ⟨z1, z2, z3, z4⟩, b, k⟩ := h3 e he
      refine ⟨⟨(A 191 _ (ic0 (n := 2400) (by decide +kernel) (by omega))).trans y1, (A 195 _ (ic2 (n := 2400) (by decide +kernel) (by omega))).trans y2, (A 196 _ (ic0 (n := 2400) (by decide +kernel) (by omega))).trans y3, (A 197 _ (ic0 (n := 2400) (by decide +kernel) (by omega))).trans y4, (A 198 _ (ic0 (n := 2400) (by decide +kernel) (by omega))).trans y5, (A 194 _ (ic0 (n := 2400) (by decide +kernel) (by omega))).trans y6⟩, ⟨(L 187 _ (lc1 (n := 2400) (by decide +kernel) (by omega))).trans z1, (L 188 _ (lc1 (n := 2400) (by decide +kernel) (by omega))).trans z2, (L 189 _ (lc1 (n := 2400) (by decide +kernel) (by omega))).trans z3, (L 190 _ (lc1 (n := 2400) (by decide +kernel) (by omega))).trans z4⟩, b, fun p hp => ?_⟩
      obtain ⟨x1, x2⟩ := k p hp
      exact ⟨(A 192 _ (ic0 (n := 9600) (by decide +kernel) (by omega))).trans x1, (A 193 _ (ic0 (n := 9600) (by decide +kernel) (by omega))).trans x2⟩
    · obtain ⟨x1, x2⟩ := h4 b hb
      exact ⟨(L 199 _ (lc1 (n := 816) (by decide +kernel) (by omega))).trans x1, (L 200 _ (lc1 (n := 816) (by decide +kernel) (by omega))).trans x2⟩
theorem hb_xm {s : Nat} {h : ah_T} (hx : xi s h) (hm : mi h) : hb s h := ⟨hx.1, hx.2.1, hx.2.2.1, hx.2.2.2.1, hx.2.2.2.2.1, hx.2.2.2.2.2.1, hm.2.1⟩
theorem s_eq {s s' : Nat} {h h' : ah_T} (hx : xi s h) (hb1 : hb s' h') (R : agR h' h) : s = s' := by
  have h1 := R 0 3 (by decide +kernel)
  rw [hx.2.2.1, hb1.2.2.1] at h1
  have a := hx.2.1
  have b := hb1.2.1
  unfold isS at a b
  have := Option.some.inj h1
  omega
