/-! ===== the reference: the tape, byte by byte ===== -/
theorem ss_b (A : BitVec 32) (n : Nat) (hn : n ≤ 24) : A.sshiftRight n &&& 255#32 = A >>> n &&& 255#32 := by
  have k : ∀ i, i < 32 → (255#32).getLsbD i = decide (i < 8) := by decide
  apply BitVec.eq_of_getLsbD_eq
  intro i hi
  rw [BitVec.getLsbD_and, BitVec.getLsbD_and, k i hi]
  by_cases c : i < 8
  · rw [BitVec.getLsbD_sshiftRight, BitVec.getLsbD_ushiftRight]
    have h1 : n + i < 32 := by omega
    have h2 : ¬ 32 ≤ i := by omega
    simp [h1, h2]
  · simp [c]
theorem mby (a : Int) (i : Nat) (hi : i < 4) : ((Int32.ofInt (((Int32.ofInt a) >>> (Int32.ofInt (24 - 8 * (i : Int)) &&& 31)).toInt)) &&& (Int32.ofInt 255)).toInt = byt a i := by
  unfold byt an_I us_I
  rw [Int32.ofInt_toInt, Int32.ofInt_toInt]
  generalize Int32.ofInt a = A
  congr 1
  apply Int32.toBitVec_inj.mp
  have e : ∀ n : Nat, n ≤ 24 → A.toBitVec.sshiftRight n &&& 255#32 = A.toBitVec >>> n &&& 255#32 := fun n hn => ss_b _ n hn
  obtain rfl | rfl | rfl | rfl : i = 0 ∨ i = 1 ∨ i = 2 ∨ i = 3 := by omega
  · exact e 24 (by decide)
  · exact e 16 (by decide)
  · exact e 8 (by decide)
  · exact e 0 (by decide)
theorem byt_b (a : Int) (i : Nat) : 0 ≤ byt a i ∧ byt a i ≤ 255 := and_r (m := 255) 8 rfl (by decide) (by decide) (by decide)
theorem fdb_b (a b c d e : Int) (j : Nat) : 0 ≤ fdb a b c d e j ∧ fdb a b c d e j ≤ 255 := by
  unfold fdb
  split
  · exact byt_b _ _
  split
  · exact byt_b _ _
  split
  · exact byt_b _ _
  split
  · exact byt_b _ _
  · exact byt_b _ _
abbrev WLy (k n : Nat) : Nat → Nat → Prop := fun x j => (x = 170 ∧ j = 1) ∨ (x = 171 ∧ k ≤ j ∧ j < k + n)
theorem t_MD_lay {G : cx_T} {s k : Nat} {h : ah_T} {a : Int} (hb0 : hb s h) (hk : h.2.1 170 1 = (k : Int)) (hk2 : k + 4 ≤ 2000) : con G 0 0 0 m_MD_lay [av_R (some 170), av_I a] h (fun r h' => r = none ∧ hb s h' ∧ fr (WLy k 4) h h' ∧ h'.2.1 170 1 = (k : Int) + 4 ∧ ∀ i, i < 4 → h'.2.1 171 (k + i) = byt a i) := by
  refine c_MD_lay (X3 := fun v2 hh => ∃ i : Nat, i ≤ 4 ∧ v2 = 24 - 8 * (i : Int) ∧ hh.2.1 170 1 = (k : Int) + i ∧ fr (WLy k 4) h hh ∧ ∀ j, j < i → hh.2.1 171 (k + j) = byt a j) ?_ hb0 (fun _ => ?_)
  · refine lp_MD_lay_3 (a1 := a) _ (fun v2 _ => (v2 + 8).toNat) ?_
    rintro v2 hh hb1 ⟨i, hi, rfl, hki, hf, hby⟩
    unfold B_MD_lay_3
    refine ⟨fun c => ?_, fun c x2 e2 _ _ x3 e3 _ _ x4 e4 _ _ => ⟨by omega, fun h6 e6 => ⟨⟨by omega, by omega⟩, fun h10 e10 => ⟨⟨by omega, by omega⟩, ⟨i + 1, by omega, by omega, by rw [mv_i e10]; omega, fr_i (fr_i hf e6 (by omega)) e10 (by omega), fun j hj => ?_⟩, by omega⟩⟩⟩⟩
    · have hi4 : i = 4 := by omega
      subst hi4
      exact ⟨rfl, hb1, hf, by rw [hki]; rfl, hby⟩
    · have ek : x2.toNat = k + i := by omega
      rw [ek] at e6
      rw [mm_i e10 (by omega)]
      by_cases c2 : j = i
      · rw [c2, mv_i e6, e4, e3]; exact mby a i (by omega)
      · rw [mm_i e6 (by omega)]; exact hby j (by omega)
  · unfold B_MD_lay_0
    exact ⟨0, by decide, rfl, by rw [hk]; omega, fr_0, fun j hj => by omega⟩
theorem t_MD_feed {G : cx_T} {s k : Nat} {h : ah_T} {a b c d e : Int} (hb0 : hb s h) (hk : h.2.1 170 1 = (k : Int)) (hk2 : k ≤ 2000) : con G 1 0 0 m_MD_feed [av_R (some 170), av_I a, av_I b, av_I c, av_I d, av_I e] h (fun r h' => hb s h' ∧ ((k + 20 ≤ 2000 ∧ r = some (av_I ((k : Int) + 20)) ∧ fr (WLy k 20) h h' ∧ h'.2.1 170 1 = (k : Int) + 20 ∧ ∀ j, j < 20 → h'.2.1 171 (k + j) = fdb a b c d e j) ∨ (¬ k + 20 ≤ 2000 ∧ r = some (av_I (-3)) ∧ h' = h))) := by
  refine c_MD_feed hb0 (fun _ _ _ _ _ => ?_)
  unfold B_MD_feed_0
  intro x1 e1 _ _
  obtain rfl : x1 = (k : Int) := e1.trans hk
  refine ⟨⟨by omega, by omega⟩, fun w => ?_, fun w => ⟨hb0, Or.inr ⟨by omega, rfl, rfl⟩⟩⟩
  refine con_mono (t_MD_lay hb0 hk (by omega)) ?_
  rintro r h3 ⟨rfl, hb3, f3, k3, y3⟩
  refine ⟨rfl, hb3, con_mono (t_MD_lay (k := k + 4) hb3 (by rw [k3]; omega) (by omega)) ?_⟩
  rintro r h6 ⟨rfl, hb6, f6, k6, y6⟩
  refine ⟨rfl, hb6, con_mono (t_MD_lay (k := k + 8) hb6 (by rw [k6]; omega) (by omega)) ?_⟩
  rintro r h9 ⟨rfl, hb9, f9, k9, y9⟩
  refine ⟨rfl, hb9, con_mono (t_MD_lay (k := k + 12) hb9 (by rw [k9]; omega) (by omega)) ?_⟩
  rintro r h12 ⟨rfl, hb12, f12, k12, y12⟩
  refine ⟨rfl, hb12, con_mono (t_MD_lay (k := k + 16) hb12 (by rw [k12]; omega) (by omega)) ?_⟩
  rintro r h15 ⟨rfl, hb15, f15, k15, y15⟩
  refine ⟨rfl, hb15, fun x18 e18 _ _ => ⟨hb15, Or.inl ⟨by omega, ?_, ?_, by rw [k15]; omega, fun j hj => ?_⟩⟩⟩
  · have : x18 = (k : Int) + 20 := by rw [e18, k15]; omega
    rw [this]
  · exact fr_t (fr_t (fr_t (fr_t (fr_w f3 (fun a k w => by unfold WLy at *; omega)) f6 (fun a k w => by unfold WLy at *; omega)) f9 (fun a k w => by unfold WLy at *; omega)) f12 (fun a k w => by unfold WLy at *; omega)) f15 (fun a k w => by unfold WLy at *; omega)
  · unfold fdb
    by_cases c1 : j < 4
    · rw [if_pos c1, fr_g f15 (by omega), fr_g f12 (by omega), fr_g f9 (by omega), fr_g f6 (by omega)]; exact y3 j c1
    rw [if_neg c1]
    by_cases c2 : j < 8
    · rw [if_pos c2, fr_g f15 (by omega), fr_g f12 (by omega), fr_g f9 (by omega)]
      have := y6 (j - 4) (by omega)
      rw [show k + 4 + (j - 4) = k + j by omega] at this; exact this
    rw [if_neg c2]
    by_cases c3 : j < 12
    · rw [if_pos c3, fr_g f15 (by omega), fr_g f12 (by omega)]
      have := y9 (j - 8) (by omega)
      rw [show k + 8 + (j - 8) = k + j by omega] at this; exact this
    rw [if_neg c3]
    by_cases c4 : j < 16
    · rw [if_pos c4, fr_g f15 (by omega)]
      have := y12 (j - 12) (by omega)
      rw [show k + 12 + (j - 12) = k + j by omega] at this; exact this
    rw [if_neg c4]
    have := y15 (j - 16) (by omega)
    rw [show k + 16 + (j - 16) = k + j by omega] at this; exact this
theorem t_MD_cut {G : cx_T} {s k : Nat} {h : ah_T} {a : Int} (hb0 : hb s h) (hk : h.2.1 170 1 = (k : Int)) (hk2 : k ≤ 2000) : con G 0 0 0 m_MD_cut [av_R (some 170), av_I a] h (fun r h' => hb s h' ∧ ((0 ≤ a ∧ a ≤ k ∧ r = some (av_I ((k : Int) - a)) ∧ fr (fun x j => x = 170 ∧ j = 1) h h' ∧ h'.2.1 170 1 = (k : Int) - a) ∨ (¬ (0 ≤ a ∧ a ≤ k) ∧ r = some (av_I (-1)) ∧ h' = h))) := by
  refine c_MD_cut hb0 (fun _ => ?_)
  unfold B_MD_cut_0 B_MD_cut_12
  refine ⟨fun c => ⟨hb0, Or.inr ⟨by omega, rfl, rfl⟩⟩, fun c x1 e1 _ _ => ?_⟩
  obtain rfl : x1 = (k : Int) := e1.trans hk
  exact ⟨fun c1 => ⟨⟨by omega, by omega⟩, fun h4 e4 => ⟨hb_i hb0 e4, Or.inl ⟨by omega, c1, rfl, fr_i fr_0 e4 ⟨rfl, rfl⟩, mv_i e4⟩⟩⟩, fun c1 => ⟨hb0, Or.inr ⟨by omega, rfl, rfl⟩⟩⟩

/-! ===== two heaps that tell one: the cells that are there ===== -/
def isIT (t : FieldType) : Bool := match t with
  | .long => false
  | .object _ => false
  | .array _ => false
  | _ => true
def icb (a k : Nat) : Bool := match sh_L[a]? with
  | some (0, n) => decide (k < n)
  | some (2, n) => decide (k < n)
  | some (c + 4, n) => decide (k < n) && isIT (f_ty c k)
  | _ => false
def lcb (a k : Nat) : Bool := match sh_L[a]? with
  | some (1, n) => decide (k < n)
  | _ => false
def rcb (a k : Nat) : Bool := match sh_L[a]? with
  | some (c + 4, n) => decide (k < n) && (match f_ty c k with
    | .object _ => true
    | _ => false)
  | _ => false
def agI (h1 h2 : ah_T) : Prop := ∀ a k, icb a k = true → h2.2.1 a k = h1.2.1 a k
def agL (h1 h2 : ah_T) : Prop := ∀ a k, lcb a k = true → h2.2.2.1 a k = h1.2.2.1 a k
def agR (h1 h2 : ah_T) : Prop := ∀ a k, rcb a k = true → h2.2.2.2 a k = h1.2.2.2 a k
theorem arrV_eq {c1 c2 : ClassId} {n k : Nat} {f g : Nat → Value} (e : arrV c1 n f = arrV c2 n g) (hk : k < n) : f k = g k := by
  have h1 := arrV_read c1 f hk
  rw [e, arrV_read c2 g hk] at h1
  exact (Option.some.inj h1).symm
theorem ob_eq {o n k : Nat} {cC : ClassId} {iS : Nat → Nat} {H : Heap} {V W : Nat → Value} (h1 : t_OB o cC n iS H V) (h2 : t_OB o cC n iS H W) (hk : k < n) : V k = W k := by
  obtain ⟨c1, e1, -, -, q1⟩ := h1
  obtain ⟨c2, e2, -, -, q2⟩ := h2
  rw [e1] at e2
  obtain rfl := Option.some.inj e2
  have := q1 k hk
  rw [q2 k hk] at this
  exact (Option.some.inj this).symm
theorem fv_i {b : Nat} {t : FieldType} {fi fl : Nat → Int} {fr : Nat → Option Nat} {k : Nat} (h : isIT t = true) : fv_V b t fi fl fr k = .int (Int32.ofInt (fi k)) := by
  unfold isIT at h
  cases t <;> first | rfl | (simp at h; done)
theorem agI_of {G : cx_T} {h1 h2 : ah_T} (e1 : h1.1 = sh_L) (e2 : h2.1 = sh_L) (S : sameH G h1 h2) : agI h1 h2 := by
  obtain ⟨t, ⟨-, C1, -, r1, -⟩, ⟨-, C2, -, r2, -⟩⟩ := S
  intro a k hk
  have fin : (Value.int (Int32.ofInt (h2.2.1 a k))) = .int (Int32.ofInt (h1.2.1 a k)) → h2.2.1 a k = h1.2.1 a k := fun e => (i32_eq (r2 a k) (r1 a k)).mp (by injection e)
  unfold icb at hk
  split at hk
  · rename_i n hs
    have c1 : _ = _ := C1 a 0 n (by rw [e1]; exact hs)
    have c2 : _ = _ := C2 a 0 n (by rw [e2]; exact hs)
    rw [c1] at c2
    exact fin (arrV_eq (Option.some.inj c2) (of_decide_eq_true hk)).symm
  · rename_i n hs
    have c1 := (show _ ∧ _ from C1 a 2 n (by rw [e1]; exact hs)).1
    have c2 := (show _ ∧ _ from C2 a 2 n (by rw [e2]; exact hs)).1
    rw [c1] at c2
    exact fin (arrV_eq (Option.some.inj c2) (of_decide_eq_true hk)).symm
  · rename_i c n hs
    rw [Bool.and_eq_true] at hk
    obtain ⟨_, -, -, c1, -⟩ := (show ∃ r : vw_C, _ from C1 a (c + 4) n (by rw [e1]; exact hs))
    obtain ⟨_, -, -, c2, -⟩ := (show ∃ r : vw_C, _ from C2 a (c + 4) n (by rw [e2]; exact hs))
    have e := ob_eq c2 c1 (of_decide_eq_true hk.1)
    rw [fv_i hk.2, fv_i hk.2] at e
    exact fin e
  · exact absurd hk (by decide)
theorem agL_of {G : cx_T} {h1 h2 : ah_T} (e1 : h1.1 = sh_L) (e2 : h2.1 = sh_L) (S : sameH G h1 h2) : agL h1 h2 := by
  obtain ⟨t, ⟨-, C1, -, -, r1⟩, ⟨-, C2, -, -, r2⟩⟩ := S
  intro a k hk
  have fin : (Value.long (Int64.ofInt (h2.2.2.1 a k))) = .long (Int64.ofInt (h1.2.2.1 a k)) → h2.2.2.1 a k = h1.2.2.1 a k := fun e => (i64_eq (r2 a k) (r1 a k)).mp (by injection e)
  unfold lcb at hk
  split at hk
  · rename_i n hs
    have c1 : _ = _ := C1 a 1 n (by rw [e1]; exact hs)
    have c2 : _ = _ := C2 a 1 n (by rw [e2]; exact hs)
    rw [c1] at c2
    exact fin (arrV_eq (Option.some.inj c2) (of_decide_eq_true hk)).symm
  · exact absurd hk (by decide)
theorem agR_of {G : cx_T} {h1 h2 : ah_T} (e1 : h1.1 = sh_L) (e2 : h2.1 = sh_L) (S : sameH G h1 h2) : agR h1 h2 := by
  obtain ⟨t, ⟨-, C1, -, -, -⟩, ⟨-, C2, -, -, -⟩⟩ := S
  intro a k hk
  unfold rcb at hk
  split at hk
  · rename_i c n hs
    rw [Bool.and_eq_true] at hk
    obtain ⟨_, -, -, c1, -⟩ := (show ∃ r : vw_C, _ from C1 a (c + 4) n (by rw [e1]; exact hs))
    obtain ⟨_, -, -, c2, -⟩ := (show ∃ r : vw_C, _ from C2 a (c + 4) n (by rw [e2]; exact hs))
    have e := ob_eq c2 c1 (of_decide_eq_true hk.1)
    have h2' := hk.2
    split at h2'
    · rename_i t ht
      rw [ht] at e
      unfold fv_V at e
      dsimp only at e
      generalize h2.2.2.2 a k = x at *
      generalize h1.2.2.2 a k = y at *
      cases x <;> cases y <;> simp [va_rf] at e ⊢
      exact e
    · exact absurd h2' (by decide)
  · exact absurd hk (by decide)
theorem ic0 {a n k : Nat} (h : sh_L[a]? = some (0, n)) (hk : k < n) : icb a k = true := by
  unfold icb
  rw [h]
  exact decide_eq_true hk
theorem ic2 {a n k : Nat} (h : sh_L[a]? = some (2, n)) (hk : k < n) : icb a k = true := by
  unfold icb
  rw [h]
  exact decide_eq_true hk
theorem lc1 {a n k : Nat} (h : sh_L[a]? = some (1, n)) (hk : k < n) : lcb a k = true := by
  unfold lcb
  rw [h]
  exact decide_eq_true hk
theorem shV {v : Nat} (hv : isV v) : sh_L[v]? = some (14, 17) ∧ sh_L[v + 1]? = some (0, 300) ∧ sh_L[v + 2]? = some (0, 300) ∧ sh_L[v + 3]? = some (0, 301) ∧ sh_L[v + 4]? = some (0, 300) ∧ sh_L[v + 5]? = some (0, 300) ∧ sh_L[v + 6]? = some (2, 300) ∧ sh_L[v + 7]? = some (0, 300) ∧ sh_L[v + 8]? = some (0, 300) ∧ sh_L[v + 9]? = some (1, 301) ∧ sh_L[v + 10]? = some (1, 301) ∧ sh_L[v + 11]? = some (1, 300) ∧ sh_L[v + 12]? = some (1, 300) ∧ sh_L[v + 13]? = some (0, 102) := by
  rcases hv with rfl | rfl | rfl | rfl | rfl | rfl | rfl | rfl <;> decide +kernel
theorem iV {v : Nat} (hv : isV v) : icb v 14 = true ∧ icb v 16 = true := by
  rcases hv with rfl | rfl | rfl | rfl | rfl | rfl | rfl | rfl <;> decide +kernel
theorem sS {c : Nat} (hc : isS c) : (sh_L[c + 2]? = some (0, 8) ∧ sh_L[c + 3]? = some (0, 24) ∧ sh_L[c + 4]? = some (0, 24) ∧ sh_L[c + 5]? = some (0, 24) ∧ sh_L[c + 6]? = some (0, 12)) ∧ (icb c 1 = true ∧ icb c 2 = true ∧ icb c 3 = true ∧ icb c 6 = true ∧ icb c 10 = true ∧ icb c 12 = true) := by
  rcases hc with rfl | rfl <;> decide +kernel
theorem vS {c n : Nat} (hc : isS c) (hn : n < 4) : isV (c + 7 + 14 * n) := by
  unfold isV; unfold isS at hc; omega
theorem rgV {v b : Nat} (hv : isV v) : (rg (v + 3) b).2 = 300 := by
  rcases hv with rfl | rfl | rfl | rfl | rfl | rfl | rfl | rfl <;> rfl
theorem RVo_ag {μ : pm_T} {n v : Nat} {h h' : ah_T} (hv : isV v) (H : RVo μ n v h) (M : MVo μ n) (A : agI h h') (L : agL h h') (q3 : ∀ b, h'.2.1 (v + 3) b ≤ 300) : RVo μ n v h' := by
  obtain ⟨s0, s1, s2, s3, s4, s5, s6, s7, s8, s9, s10, s11, s12, s13⟩ := shV hv
  obtain ⟨i14, i16⟩ := iV hv
  obtain ⟨⟨h1, h1'⟩, ⟨h2, h2'⟩, h3, h4, h5⟩ := H
  have m1 := M.1
  have m2 := M.2.1
  refine ⟨⟨(A _ _ i14).trans h1, (A _ _ i16).trans h1'⟩, ⟨(L _ _ (lc1 s9 (by omega))).trans h2, (L _ _ (lc1 s10 (by omega))).trans h2'⟩, fun e he => ?_, fun b hb => (A _ _ (ic0 s13 (by omega))).trans (h4 b hb), (A _ _ (ic0 s13 (by omega))).trans h5⟩
  obtain ⟨b, q, y1, y2, y3, ⟨z1, z2, z3, z4⟩, ⟨u1, u2⟩, ⟨w1, w2, w3⟩, y7⟩ := h3 e he
  have a1 := (A _ _ (ic0 (k := b + 1) s3 (by omega))).trans u2
  have a2 := q3 (b + 1)
  refine ⟨b, q, y1, (A _ _ (ic0 s7 (by omega))).trans y2, (A _ _ (ic0 s8 (by omega))).trans y3, ⟨(L _ _ (lc1 s9 (by omega))).trans z1, (L _ _ (lc1 s10 (by omega))).trans z2, (L _ _ (lc1 s11 (by omega))).trans z3, (L _ _ (lc1 s12 (by omega))).trans z4⟩, ⟨(A _ _ (ic0 s3 (by omega))).trans u1, a1⟩, ⟨(A _ _ (ic2 s6 (by omega))).trans w1, (A _ _ (ic0 s4 (by omega))).trans w2, (A _ _ (ic0 s5 (by omega))).trans w3⟩, fun p hp => ?_⟩
  obtain ⟨x1, x2⟩ := y7 p hp
  exact ⟨(A _ _ (ic0 s1 (by omega))).trans x1, (A _ _ (ic0 s2 (by omega))).trans x2⟩
theorem CKn_ag {μ : pm_T} {s c : Nat} {h h' : ah_T} (hc : isS c) (H : CKn μ c h) (A : agI h h') (L : agL h h') (hx : xi s h') : CKn μ c h' := by
  obtain ⟨⟨a1, a2, a3, a4, a5, a6⟩, b, l, ru, ro, V⟩ := H
  obtain ⟨⟨s2, s3, s4, s5, s6⟩, i1, i2, i3, i6, i10, i12⟩ := sS hc
  refine ⟨⟨(A _ _ i1).trans a1, (A _ _ i2).trans a2, (A _ _ i3).trans a3, (A _ _ i6).trans a4, (A _ _ i10).trans a5, (A _ _ i12).trans a6⟩, b, fun j hj => (A _ _ (ic0 s2 (by omega))).trans (l j hj), fun j hj => ?_, fun j hj => (A _ _ (ic0 s6 (by omega))).trans (ro j hj), fun n hn => ?_⟩
  · obtain ⟨x1, x2, x3⟩ := ru j hj
    exact ⟨(A _ _ (ic0 s3 (by omega))).trans x1, (A _ _ (ic0 s4 (by omega))).trans x2, (A _ _ (ic0 s5 (by omega))).trans x3⟩
  · have hv : isV (c + 7 + 14 * n) := vS hc (by omega)
    refine ⟨RVo_ag hv (V n hn).1 (V n hn).2 A L (fun b => ?_), (V n hn).2⟩
    have hl : c + 7 + 14 * n + 3 < 170 := by unfold isV at hv; omega
    have := (hx.2.2.2.2.2.2.1 (c + 7 + 14 * n + 3) b hl).2
    rw [rgV hv] at this
    exact this
theorem KSn_ag {μ : pm_T} {h h' : ah_T} (H : KSn μ h) (A : agI h h') (L : agL h h') : KSn μ h' := by
  obtain ⟨⟨a1, a2, a3, a4⟩, ⟨b3, b4, b5, b7⟩, l, ru, ro, vo⟩ := H
  refine ⟨⟨(A _ _ (by decide +kernel)).trans a1, (A _ _ (by decide +kernel)).trans a2, (A _ _ (by decide +kernel)).trans a3, (A _ _ (by decide +kernel)).trans a4⟩, ⟨b3, b4, b5, b7⟩, fun j hj => (A 176 j (ic0 (n := 16) (by decide +kernel) (by omega))).trans (l j hj), fun j hj => ?_, fun j hj => (A 182 j (ic0 (n := 24) (by decide +kernel) (by omega))).trans (ro j hj), fun n hn => ?_⟩
  · obtain ⟨x1, x2, x3⟩ := ru j hj
    exact ⟨(A 178 j (ic0 (n := 48) (by decide +kernel) (by omega))).trans x1, (A 179 j (ic0 (n := 48) (by decide +kernel) (by omega))).trans x2, (A 180 j (ic0 (n := 48) (by decide +kernel) (by omega))).trans x3⟩
  · obtain ⟨⟨h1, h1'⟩, h2, h3, h4, h5, h6⟩ := vo n hn
    refine ⟨⟨(A 185 n (ic0 (n := 8) (by decide +kernel) (by omega))).trans h1, (A 186 n (ic0 (n := 8) (by decide +kernel) (by omega))).trans h1'⟩, h2, fun e he => ?_, fun b hb => ?_, (L 199 _ (lc1 (n := 816) (by decide +kernel) (by omega))).trans h5, (L 200 _ (lc1 (n := 816) (by decide +kernel) (by omega))).trans h6⟩
    · obtain ⟨⟨y1, y2, y3, y4, y5, y6⟩, ⟨z1, z2, z3, z4⟩, b, k⟩ := h3 e he
      refine ⟨⟨(A 191 _ (ic0 (n := 2400) (by decide +kernel) (by omega))).trans y1, (A 195 _ (ic2 (n := 2400) (by decide +kernel) (by omega))).trans y2, (A 196 _ (ic0 (n := 2400) (by decide +kernel) (by omega))).trans y3, (A 197 _ (ic0 (n := 2400) (by decide +kernel) (by omega))).trans y4, (A 198 _ (ic0 (n := 2400) (by decide +kernel) (by omega))).trans y5, (A 194 _ (ic0 (n := 2400) (by decide +kernel) (by omega))).trans y6⟩, ⟨(L 187 _ (lc1 (n := 2400) (by decide +kernel) (by omega))).trans z1, (L 188 _ (lc1 (n := 2400) (by decide +kernel) (by omega))).trans z2, (L 189 _ (lc1 (n := 2400) (by decide +kernel) (by omega))).trans z3, (L 190 _ (lc1 (n := 2400) (by decide +kernel) (by omega))).trans z4⟩, b, fun p hp => ?_⟩
      obtain ⟨x1, x2⟩ := k p hp
      exact ⟨(A 192 _ (ic0 (n := 9600) (by decide +kernel) (by omega))).trans x1, (A 193 _ (ic0 (n := 9600) (by decide +kernel) (by omega))).trans x2⟩
    · obtain ⟨x1, x2⟩ := h4 b hb
      exact ⟨(L 199 _ (lc1 (n := 816) (by decide +kernel) (by omega))).trans x1, (L 200 _ (lc1 (n := 816) (by decide +kernel) (by omega))).trans x2⟩
theorem hb_xm {s : Nat} {h : ah_T} (hx : xi s h) (hm : mi h) : hb s h := ⟨hx.1, hx.2.1, hx.2.2.1, hx.2.2.2.1, hx.2.2.2.2.1, hx.2.2.2.2.2.1, hm.2.1⟩
theorem s_eq {s s' : Nat} {h h' : ah_T} (hx : xi s h) (hb1 : hb s' h') (R : agR h' h) : s = s' := by
  have h1 := R 0 3 (by decide +kernel)
  rw [hx.2.2.1, hb1.2.2.1] at h1
  have a := hx.2.1
  have b := hb1.2.1
  unfold isS at a b
  have := Option.some.inj h1
  omega

/-! ===== the TIME of a score is good ===== -/
def TMg (μ : pm_T) : Prop := (1 ≤ μ 0 1 ∧ μ 0 1 ≤ 32) ∧ (1 ≤ μ 0 2 ∧ μ 0 2 ≤ 32) ∧ pwb (μ 0 2) = true
theorem TMg_k {μ μ' : pm_T} (h : TMg μ) (e1 : μ' 0 1 = μ 0 1) (e2 : μ' 0 2 = μ 0 2) : TMg μ' := by
  unfold TMg
  rw [e1, e2]
  exact h
theorem tg_bn {β γ : Type} {x : F_T ⊕ β} {f : β → F_T ⊕ γ} {y : γ} (h : bnd x f = .inr y) : ∃ b, x = .inr b ∧ f b = .inr y := by
  cases x with
  | inl q => exact absurd h (by simp [bnd])
  | inr b => exact ⟨b, rfl, h⟩
theorem tg_num {t : tk_T} {i : Nat} {m a : Int} {p : Bool} (h : sp_num t i m p = .inr a) : (1 ≤ a ∧ a ≤ m) ∧ (p = false ∨ pwb a = true) := by
  unfold sp_num at h
  split at h
  · split at h
    · rename_i c
      obtain rfl := Sum.inr.inj h
      exact c
    · exact absurd h (by simp)
  · exact absurd h (by simp)
theorem tg_time {t : tk_T} {i : Nat} {μ : pm_T} {q : Nat × pm_T} (h : sp_time t i μ = .inr q) : TMg q.2 := by
  unfold sp_time at h
  split at h
  · obtain ⟨a, ea, h⟩ := tg_bn h
    obtain ⟨_, -, h⟩ := tg_bn h
    obtain ⟨b, eb, h⟩ := tg_bn h
    obtain ⟨_, -, h⟩ := tg_bn h
    obtain rfl := Sum.inr.inj h
    obtain ⟨a1, -⟩ := tg_num ea
    obtain ⟨b1, b2⟩ := tg_num eb
    have e1 : (up2 (up2 (up2 μ 0 0 1) 0 1 a) 0 2 b) 0 1 = a := by simp [up2]
    have e2 : (up2 (up2 (up2 μ 0 0 1) 0 1 a) 0 2 b) 0 2 = b := by simp [up2]
    show TMg (up2 (up2 (up2 μ 0 0 1) 0 1 a) 0 2 b)
    unfold TMg
    rw [e1, e2]
    exact ⟨a1, b1, b2.elim (fun c => absurd c (by decide)) id⟩
  · exact absurd h (by simp)
theorem tg_pits {t : tk_T} : ∀ (f i : Nat) (μ : pm_T) (q : Nat × pm_T), sp_pits t f i μ = .inr q → TMg μ → TMg q.2
  | 0, _, _, _, h, _ => absurd h (by simp [sp_pits])
  | f + 1, i, μ, q, h, T => by
    have T' : TMg (pit t i μ) := TMg_k T (by simp [pit, up2]) (by simp [pit, up2])
    rw [sp_pits] at h
    split at h
    · split at h
      · exact absurd h (by simp)
      · split at h
        · obtain rfl := Sum.inr.inj h
          exact T'
        · exact tg_pits f _ _ _ h T'
    · exact absurd h (by simp)
theorem tg_name {t : tk_T} {i : Nat} {μ : pm_T} {q : Int × pm_T} (h : sp_name t i μ = .inr q) (T : TMg μ) : TMg q.2 := by
  unfold sp_name at h
  split at h
  · split at h
    · obtain rfl := Sum.inr.inj h
      exact T
    · split at h
      · exact absurd h (by simp)
      · obtain rfl := Sum.inr.inj h
        exact TMg_k T (by simp [up2]) (by simp [up2])
  · exact absurd h (by simp)
theorem tg_rows {t : tk_T} : ∀ (f i : Nat) (μ : pm_T) (q : Nat × pm_T), sp_rows t f i μ = .inr q → TMg μ → TMg q.2
  | 0, _, _, _, h, _ => absurd h (by simp [sp_rows])
  | f + 1, i, μ, q, h, T => by
    rw [sp_rows] at h
    split at h
    · split at h
      · obtain ⟨a, ea, h⟩ := tg_bn h
        have T' : TMg (rowa a.2 a.1) := TMg_k (tg_name ea T) (by simp [rowa, up2]) (by simp [rowa, up2])
        split at h
        · obtain rfl := Sum.inr.inj h
          exact T'
        · exact tg_rows f _ _ _ h T'
      · exact absurd h (by simp)
    · exact absurd h (by simp)
theorem tg_addr {μ : pm_T} {a b c : Int} (T : TMg μ) : TMg (addr μ a b c) := TMg_k T (by simp [addr, up2]) (by simp [addr, up2])
theorem tg_rule {t : tk_T} {i : Nat} {μ : pm_T} {q : Nat × pm_T} (h : sp_rule t i μ = .inr q) (T : TMg μ) : TMg q.2 := by
  unfold sp_rule at h
  split at h
  · obtain ⟨a, ea, h⟩ := tg_bn h
    obtain ⟨_, -, h⟩ := tg_bn h
    obtain ⟨b, eb, h⟩ := tg_bn h
    have Tb := tg_name eb (tg_name ea T)
    split at h
    · obtain ⟨c, ec, h⟩ := tg_bn h
      obtain ⟨_, -, h⟩ := tg_bn h
      obtain rfl := Sum.inr.inj h
      exact tg_addr (tg_name ec Tb)
    · obtain ⟨_, -, h⟩ := tg_bn h
      obtain rfl := Sum.inr.inj h
      exact tg_addr Tb
  · exact absurd h (by simp)
theorem tg_addV {μ π α : pm_T} (T : TMg μ) : TMg (addV μ π α) := by
  refine TMg_k T ?_ ?_ <;> · unfold addV; rw [if_neg (by omega), if_neg (by omega), if_neg (by omega), if_neg (by omega)]
theorem tg_voice {t : tk_T} {i : Nat} {μ : pm_T} {q : Nat × pm_T} (h : sp_voice t i μ = .inr q) (T : TMg μ) : TMg q.2 := by
  unfold sp_voice at h
  split at h
  · obtain ⟨a, ea, h⟩ := tg_bn h
    split at h
    · exact absurd h (by simp)
    · split at h
      · obtain rfl := Sum.inr.inj h
        exact tg_addV T
      · exact absurd h (by simp)
  · exact absurd h (by simp)
theorem tg_items {t : tk_T} : ∀ (f i : Nat) (μ ν : pm_T), sp_items t f i μ = .inr ν → TMg μ → TMg ν
  | 0, _, _, _, h, _ => absurd h (by simp [sp_items])
  | f + 1, i, μ, ν, h, T => by
    rw [sp_items] at h
    split at h
    · obtain rfl := Sum.inr.inj h
      exact T
    · obtain ⟨q, eq, h⟩ := tg_bn h
      refine tg_items f _ _ _ h ?_
      split at eq
      · exact tg_time eq
      · split at eq
        · exact tg_voice eq T
        · split at eq
          · unfold sp_line at eq
            split at eq
            · exact tg_pits _ _ _ _ eq T
            · exact absurd eq (by simp)
          · split at eq
            · exact tg_rule eq T
            · split at eq
              · unfold sp_row at eq
                split at eq
                · exact tg_rows _ _ _ _ eq T
                · exact absurd eq (by simp)
              · exact absurd eq (by simp)
theorem tg_score {t : tk_T} {ν : pm_T} (h : sp_score t = .inr ν) : TMg ν := tg_items _ _ _ _ h (by unfold TMg sco0; refine ⟨⟨?_, ?_⟩, ⟨?_, ?_⟩, ?_⟩ <;> simp [up2, pwb])
