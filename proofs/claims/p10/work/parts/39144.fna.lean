/-! ===== fault of both: the list of faults that the latest judge found ===== -/
theorem pk4_v {a b c d : Nat} (ha : a < 8) (hb : b < 4) (hc : c < 512) (hd : d ≤ 1000) : pk4 (a : Int) (b : Int) (c : Int) (d : Int) = ((a + 8 * b + 32 * c + 16384 * d : Nat) : Int) := by
  unfold pk4
  simp only [Int32.ofInt_toInt]
  have e3 := i3_shl (b := b) (k := 3) (s := (Int32.ofInt 3 &&& 31)) (by decide +kernel) (by omega) (by omega)
  have e5 := i3_shl (b := c) (k := 5) (s := (Int32.ofInt 5 &&& 31)) (by decide +kernel) (by omega) (by omega)
  have e14 := i3_shl (b := d) (k := 14) (s := (Int32.ofInt 14 &&& 31)) (by decide +kernel) (by omega) (by omega)
  have h := i3_or (i3_or (i3_or (i3_n (a := a) (by omega)) e3 (by omega)) e5 (by omega)) e14 (by omega)
  rw [i3_ti h (by omega)]
  omega
/-- what a fault tells -/
def cmq (q : JQ) (w : Int) : Int := if w = 0 then q.1 else if w = 1 then q.2.1 else if w = 2 then q.2.2.1 else if w = 3 then q.2.2.2 else -1
def fat (l : List JQ) (k w : Int) : Int := if 0 ≤ k ∧ k < (l.length : Int) then cmq (l.getD k.toNat (0, 0, 0, 0)) w else -1
theorem fat_i {l : List JQ} {k w : Int} (h : 0 ≤ k ∧ k < (l.length : Int)) : ∃ q, l[k.toNat]? = some q ∧ q ∈ l ∧ fat l k w = cmq q w := by
  have hl : k.toNat < l.length := by omega
  refine ⟨l[k.toNat], List.getElem?_eq_getElem hl, List.getElem_mem hl, ?_⟩
  unfold fat
  rw [if_pos h, List.getD_eq_getElem?_getD, List.getElem?_eq_getElem hl]
  rfl
theorem fat_o {l : List JQ} {k w : Int} (h : ¬ (0 ≤ k ∧ k < (l.length : Int))) : fat l k w = -1 := by unfold fat; exact if_neg h
theorem cmq_o {q : JQ} {w : Int} (h : w < 0 ∨ 3 < w) : cmq q w = -1 := by
  unfold cmq
  rw [if_neg (by omega), if_neg (by omega), if_neg (by omega), if_neg (by omega)]
/-- the ranges of a fault -/
def JR (q : JQ) : Prop := (0 ≤ q.1 ∧ q.1 ≤ 7) ∧ (0 ≤ q.2.1 ∧ q.2.1 ≤ 3) ∧ (0 ≤ q.2.2.1 ∧ q.2.2.1 ≤ 511) ∧ (0 ≤ q.2.2.2 ∧ q.2.2.2 ≤ 1000)
theorem catl_P {P : JQ → Prop} {f : Nat → List JQ} : ∀ n, (∀ i, i < n → ∀ q, q ∈ f i → P q) → ∀ q, q ∈ catl f n → P q
  | 0, _, q, h => absurd (show q ∈ ([] : List JQ) from h) List.not_mem_nil
  | n + 1, H, q, h => by
    rcases List.mem_append.mp (show q ∈ catl f n ++ f n from h) with h | h
    · exact catl_P n (fun i hi => H i (by omega)) q h
    · exact H n (by omega) q h
theorem pif_P {P : JQ → Prop} {p : Prop} {l : List JQ} (H : p → ∀ q, q ∈ l → P q) : ∀ q, q ∈ pif p l → P q := fun q h => by
  by_cases c : p
  · rw [pif_t c] at h; exact H c q h
  · rw [pif_f c] at h; exact absurd h List.not_mem_nil
theorem one_P {P : JQ → Prop} {q0 : JQ} (H : P q0) : ∀ q, q ∈ [q0] → P q := fun q h => by
  obtain rfl := List.mem_singleton.mp h
  exact H
theorem juF_R {μ : pm_T} (GG : GM μ) {k : Nat} (hk : (k : Int) ≤ μ 0 7) : ∀ q, q ∈ juF μ k → JR q := by
  have b7 := GG.1.1
  unfold juF
  refine catl_P k (fun n hn => ?_)
  have m := (GG.2.2 n (by omega)).1
  have m2 := (GG.2.2 n (by omega)).2.1
  unfold voF
  refine catl_P _ (fun e he => ?_)
  intro q hq
  unfold atF at hq
  rcases List.mem_append.mp hq with hq | hq
  · unfold barF at hq
    exact catl_P (P := JR) _ (fun b hb => pif_P (fun _ => one_P ⟨by dsimp only; omega, by dsimp only; omega, by dsimp only; omega, by dsimp only; omega⟩)) q hq
  · refine pif_P (P := JR) (fun _ q hq => ?_) q hq
    unfold evF at hq
    rcases List.mem_append.mp hq with hq | hq
    · rcases List.mem_append.mp hq with hq | hq
      · unfold aloF at hq
        rcases List.mem_append.mp hq with hq | hq
        · exact pif_P (P := JR) (fun _ => one_P ⟨by dsimp only; omega, by dsimp only; omega, by dsimp only; omega, by dsimp only; omega⟩) q hq
        · exact pif_P (P := JR) (fun _ => one_P ⟨by dsimp only; omega, by dsimp only; omega, by dsimp only; omega, by dsimp only; omega⟩) q hq
      · unfold croF at hq
        exact catl_P (P := JR) _ (fun o ho => pif_P (fun _ => one_P ⟨by dsimp only; omega, by dsimp only; omega, by dsimp only; omega, by dsimp only; omega⟩)) q hq
    · unfold parF at hq
      exact catl_P (P := JR) _ (fun o ho => pif_P (fun _ => one_P ⟨by dsimp only; omega, by dsimp only; omega, by dsimp only; omega, by dsimp only; omega⟩)) q hq
def FIj (h : ah_T) : Prop := ∃ l : List JQ, (l.length ≤ 6404 ∧ ∀ q, q ∈ l → JR q) ∧ JL l h ∧ MLl l h
theorem JL_s {l : List JQ} {h h' : ah_T} (H : JL l h) (e1 : h'.2.1 143 1 = h.2.1 143 1) (e2 : ∀ k, k < l.length → h'.2.1 144 k = h.2.1 144 k) : JL l h' := by
  refine ⟨e1.trans H.1, fun k v hk => ?_⟩
  have kl : k < l.length := by
    by_cases c : k < l.length
    · exact c
    · rw [List.getElem?_eq_none (by omega)] at hk; cases hk
  exact (e2 k kl).trans (H.2 k v hk)
theorem MLl_s {l : List JQ} {h h' : ah_T} (H : MLl l h) (e1 : h'.2.1 170 80 = h.2.1 170 80) (e2 : ∀ a k, 221 ≤ a → a ≤ 224 → k < l.length → h'.2.1 a k = h.2.1 a k) : MLl l h' := by
  refine ⟨e1.trans H.1, fun k v hk => ?_⟩
  have kl : k < l.length := by
    by_cases c : k < l.length
    · exact c
    · rw [List.getElem?_eq_none (by omega)] at hk; cases hk
  rw [e2 221 k (by decide) (by decide) kl, e2 222 k (by decide) (by decide) kl, e2 223 k (by decide) (by decide) kl, e2 224 k (by decide) (by decide) kl]
  exact H.2 k v hk
theorem FIj_c {s : Nat} {F : Nat → Prop} {h h' : ah_T} (H : FIj h) (k : kF F s h h') (h1 : F 143 ∧ F 144) (h2 : ∀ a, 170 ≤ a → F a) : FIj h' := by
  obtain ⟨l, hl, A, B⟩ := H
  exact ⟨l, hl, JL_s A (congrFun (k.2 _ h1.1).1 _) (fun j _ => congrFun (k.2 _ h1.2).1 j), MLl_s B (congrFun (k.2 _ (h2 170 (by decide))).1 _) (fun a j q _ _ => congrFun (k.2 a (h2 a (by omega))).1 j)⟩
theorem FIj_m {P : Nat → Nat → Bool} {h h' : ah_T} (H : FIj h) (k : kM P h h') (h1 : P 170 80 = false) (h2 : ∀ j, P 221 j = false ∧ P 222 j = false ∧ P 223 j = false ∧ P 224 j = false) : FIj h' := by
  obtain ⟨l, hl, A, B⟩ := H
  refine ⟨l, hl, JL_s A (congrFun (k.2.1 143 (by decide)).1 _) (fun j _ => congrFun (k.2.1 144 (by decide)).1 j), MLl_s B (k.2.2.1 _ _ h1) (fun a j q1 q2 _ => k.2.2.1 _ _ ?_)⟩
  obtain ⟨p1, p2, p3, p4⟩ := h2 j
  rcases (by omega : a = 221 ∨ a = 222 ∨ a = 223 ∨ a = 224) with rfl | rfl | rfl | rfl <;> assumption
theorem FIj_s {P : Nat → Nat → Bool} {h h1 h2 : ah_T} (H : FIj h) (f : ∀ a, 170 ≤ a → same3 h h1 a) (Z : FZ h h1 h2) (k : kM P h1 h2) (hP : ∀ j, P 221 j = false ∧ P 222 j = false ∧ P 223 j = false ∧ P 224 j = false) : FIj h2 := by
  obtain ⟨l, hl, A, B⟩ := H
  rcases Z with ⟨zc, zm, -⟩ | ⟨zc, zm⟩
  · refine ⟨l, hl, JL_s A (zc.1 _ _ (by decide) (by decide) (by decide +kernel)) (fun j hj => zc.1 _ _ (by decide) (by decide) (ic0 (n := 6404) (by decide +kernel) (by omega))), MLl_s B ((zm 80 (by decide)).trans (congrFun (f 170 (by decide)).1 80)) (fun a j q1 q2 _ => ((k.2.2.1 _ _ ?_).trans (congrFun (f a (by omega)).1 j)))⟩
    obtain ⟨p1, p2, p3, p4⟩ := hP j
    rcases (by omega : a = 221 ∨ a = 222 ∨ a = 223 ∨ a = 224) with rfl | rfl | rfl | rfl <;> assumption
  · exact ⟨[], ⟨by decide, fun q hq => by cases hq⟩, ⟨zc.1, fun k v hk => by cases hk⟩, zm 80 (by decide), fun k v hk => by cases hk⟩
theorem FIj_0 : FIj hp_0 := ⟨[], ⟨by decide, fun q hq => by cases hq⟩, ⟨by decide +kernel, fun k v hk => by cases hk⟩, by decide +kernel, fun k v hk => by cases hk⟩
def FDj (μ : pm_T) (h : ah_T) : Prop := JL (juF μ (μ 0 7).toNat) h
theorem f_PM_judge {G : cx_T} {s : Nat} {h : ah_T} {μ : pm_T} (hx : xi s h) (hm : mi h) (C : CKn μ (97 - s) h) (R : SRq μ h) : con G 6 0 0 m_PM_judge [av_R (some 0)] h (fun r h' => ∃ z, r = some (av_I z) ∧ ((-2147483648) ≤ z ∧ z ≤ 2147483647) ∧ kF FC s h h' ∧ SRq μ h' ∧ FDj μ h') := by
  have hb0 := hb_xm hx hm
  have V := CV_of hx C R
  have lb := juF_b V.2.2.1
  have t : con G 6 0 0 m_PM_judge [av_R (some 0)] h (fun r h' => hb s h' ∧ JL (juF μ (μ 0 7).toNat) h') := by
    refine c_PM_judge hb0 ?_
    unfold B_PM_judge_0
    refine con_mono (t_Judge_hear hb0 V) ?_
    rintro r h' ⟨rfl, hb', -, J⟩
    exact ⟨_, rfl, hb', hb', J⟩
  refine con_mono (con_conj (h2 := h) (s_PM_judge hx) t) ?_
  rintro r h' ⟨⟨z, rfl, q2, kc⟩, r2, h2, ⟨hb2, J⟩, er, S⟩
  have A : agI h2 h' := agI_of hb2.1 kc.1.1 (sh_sym S)
  exact ⟨z, rfl, q2, kc, SR_c R kc, JL_s J (A _ _ (by decide +kernel)) (fun j hj => A _ _ (ic0 (n := 6404) (by decide +kernel) (by omega)))⟩
theorem f_MD_judge {G : cx_T} {s : Nat} {h : ah_T} {μ : pm_T} (hx : xi s h) (hm : mi h) (hKS : KS h) (GG : GM μ) (R : SRq μ h) (FD : FDj μ h) : con G 6 0 0 m_MD_judge [av_R (some 170)] h (fun r h' => ∃ z, r = some (av_I z) ∧ ((-2147483648) ≤ z ∧ z ≤ 2147483647) ∧ (h'.2.1 170 80 ≤ 8000) ∧ kM (pm [65, 66, 80] [221, 222, 223, 224]) h h' ∧ FIj h') := by
  have hb0 := hb_xm hx hm
  have lb := juF_b GG
  have b7 := GG.1.1
  refine con_mono (con_conj (h2 := h) (s_MD_judge hm hKS) (t_MD_judge hb0 (MV_of GG R))) ?_
  rintro r h' ⟨⟨z, rfl, q2, q3, kn⟩, r2, h2, ⟨rfl, hb2, -, ML⟩, er, S⟩
  have A : agI h2 h' := agI_of hb2.1 kn.1.1 (sh_sym S)
  have sz : ∀ a, 221 ≤ a → a ≤ 224 → sh_L[a]? = some (0, 8000) := fun a q1 q2 => by
    rcases (by omega : a = 221 ∨ a = 222 ∨ a = 223 ∨ a = 224) with rfl | rfl | rfl | rfl <;> decide +kernel
  exact ⟨z, rfl, q2, q3, kn, _, ⟨lb, juF_R GG (by omega)⟩, JL_s FD (congrFun (kn.2.1 143 (by decide)).1 _) (fun j _ => congrFun (kn.2.1 144 (by decide)).1 j), MLl_s ML (A _ _ (by decide +kernel)) (fun a j q1 q2 hj => A _ _ (ic0 (sz a q1 q2) (by omega)))⟩
theorem e_PM_fault {G : cx_T} {s : Nat} {h : ah_T} {l : List JQ} {k w : Int} (hx : xi s h) (hm : mi h) (hl : l.length ≤ 6404 ∧ ∀ q, q ∈ l → JR q) (H : JL l h) : con G 1 0 0 m_PM_fault [av_R (some 0), av_I k, av_I w] h (fun r h' => ∃ z, r = some (av_I z) ∧ h = h' ∧ z = fat l k w) := by
  have hb0 := hb_xm hx hm
  refine c_PM_fault hb0 (fun _ _ => ?_)
  unfold B_PM_fault_0
  refine con_mono (c_Judge_detailOf (Q := fun r h' => r = some (av_I (fat l k w)) ∧ hb s h' ∧ h' = h) hb0 (fun _ _ => ?_)) ?_
  · unfold B_Judge_detailOf_0 B_Judge_detailOf_21
    have no : ¬ (0 ≤ k ∧ k < (l.length : Int)) → some (av_I (-1)) = some (av_I (fat l k w)) ∧ hb s h ∧ h = h := fun q => ⟨by rw [fat_o q], hb0, rfl⟩
    refine ⟨fun q => no (by omega), fun q x1 e1 _ _ => ?_⟩
    obtain rfl := e1.trans H.1
    have l6 := hl.1
    refine ⟨fun q2 => no (by omega), fun q2 => ⟨fun q3 => ⟨by omega, fun x4 e4 _ _ => ?_⟩, fun q3 => by omega⟩⟩
    obtain ⟨⟨qa, qb, qc, qd⟩, g1, g2, g3⟩ := fat_i (l := l) (k := k) (w := w) (by omega)
    obtain ⟨r1, r2, r3, r4⟩ := hl.2 _ g2
    dsimp only at r1 r2 r3 r4
    obtain ⟨a, rfl⟩ : ∃ a : Nat, qa = a := ⟨qa.toNat, by omega⟩
    obtain ⟨b, rfl⟩ : ∃ a : Nat, qb = a := ⟨qb.toNat, by omega⟩
    obtain ⟨c, rfl⟩ : ∃ a : Nat, qc = a := ⟨qc.toNat, by omega⟩
    obtain ⟨d, rfl⟩ : ∃ a : Nat, qd = a := ⟨qd.toNat, by omega⟩
    have ex : x4 = ((a + 8 * b + 32 * c + 16384 * d : Nat) : Int) := by
      rw [e4, H.2 _ _ g1]
      exact pk4_v (by omega) (by omega) (by omega) (by omega)
    rw [g3]
    generalize eN : a + 8 * b + 32 * c + 16384 * d = N at ex
    subst ex
    have hN : N < 2147483648 := by omega
    refine ⟨fun w0 x6 e6 _ _ => ⟨?_, hb0, rfl⟩, fun w0 x7 e7 _ _ x8 e8 _ _ => ⟨?_, hb0, rfl⟩, fun w0 x9 e9 _ _ x10 e10 _ _ => ⟨?_, hb0, rfl⟩, fun w0 x11 e11 _ _ => ⟨?_, hb0, rfl⟩, fun w0 => ⟨by rw [cmq_o w0], hb0, rfl⟩⟩
    · have e : x6 = ((N % 2 ^ 3 : Nat) : Int) := e6.trans (un_and (m := 7) hN (by decide +kernel) (by decide))
      rw [e, w0]
      show some (av_I ((N % 8 : Nat) : Int)) = some (av_I (a : Int))
      rw [show N % 8 = a by omega]
    · have e : x7 = ((N / 2 ^ 3 : Nat) : Int) := e7.trans (un_shr hN (by decide +kernel))
      subst e
      have e : x8 = ((N / 2 ^ 3 % 2 ^ 2 : Nat) : Int) := e8.trans (un_and (m := 3) (by omega) (by decide +kernel) (by decide))
      rw [e, w0]
      show some (av_I ((N / 8 % 4 : Nat) : Int)) = some (av_I (b : Int))
      rw [show N / 8 % 4 = b by omega]
    · have e : x9 = ((N / 2 ^ 5 : Nat) : Int) := e9.trans (un_shr hN (by decide +kernel))
      subst e
      have e : x10 = ((N / 2 ^ 5 % 2 ^ 9 : Nat) : Int) := e10.trans (un_and (m := 511) (by omega) (by decide +kernel) (by decide))
      rw [e, w0]
      show some (av_I ((N / 32 % 512 : Nat) : Int)) = some (av_I (c : Int))
      rw [show N / 32 % 512 = c by omega]
    · have e : x11 = ((N / 2 ^ 14 : Nat) : Int) := e11.trans (un_shr hN (by decide +kernel))
      rw [e, w0]
      show some (av_I ((N / 16384 : Nat) : Int)) = some (av_I (d : Int))
      rw [show N / 16384 = d by omega]
  · rintro r h2 ⟨rfl, hb2, rfl⟩
    exact ⟨_, rfl, hb2, _, rfl, rfl, rfl⟩
theorem e_MD_fault {G : cx_T} {s : Nat} {h : ah_T} {l : List JQ} {k w : Int} (hx : xi s h) (hm : mi h) (hl : l.length ≤ 6404 ∧ ∀ q, q ∈ l → JR q) (H : MLl l h) : con G 0 0 0 m_MD_fault [av_R (some 170), av_I k, av_I w] h (fun r h' => ∃ z, r = some (av_I z) ∧ h = h' ∧ z = fat l k w) := by
  have hb0 := hb_xm hx hm
  refine c_MD_fault hb0 (fun _ _ => ?_)
  unfold B_MD_fault_0 B_MD_fault_21 B_MD_fault_70
  have l6 := hl.1
  have no : ¬ (0 ≤ k ∧ k < (l.length : Int)) → ∃ z, some (av_I (-1)) = some (av_I z) ∧ h = h ∧ z = fat l k w := fun q => ⟨-1, rfl, rfl, by rw [fat_o q]⟩
  refine ⟨fun q => no (by omega), fun q x1 e1 _ _ => ?_⟩
  obtain rfl := e1.trans H.1
  refine ⟨fun q2 => no (by omega), fun q2 => ?_⟩
  obtain ⟨q0, g1, g2, g3⟩ := fat_i (l := l) (k := k) (w := w) (by omega)
  obtain ⟨c1, c2, c3, c4⟩ := H.2 _ _ g1
  rw [g3]
  have bad : (w < 0 ∨ 3 < w) → ∃ z, some (av_I (-1)) = some (av_I z) ∧ h = h ∧ z = cmq q0 w := fun q => ⟨-1, rfl, rfl, by rw [cmq_o q]⟩
  refine ⟨fun q3 => bad (by omega), fun q3 => ⟨fun q4 => ⟨fun w0 => ⟨by omega, fun x e _ _ => ⟨x, rfl, rfl, ?_⟩⟩, fun w0 => ⟨fun w1 => ⟨by omega, fun x e _ _ => ⟨x, rfl, rfl, ?_⟩⟩, fun w1 => ⟨fun w2 => ⟨by omega, fun x e _ _ => ⟨x, rfl, rfl, ?_⟩⟩, fun w2 => ⟨by omega, fun x e _ _ => ⟨x, rfl, rfl, ?_⟩⟩⟩⟩⟩, fun q4 => bad (by omega)⟩⟩
  · rw [e, c1, w0]; rfl
  · rw [e, c2, w1]; rfl
  · rw [e, c3, w2]; rfl
  · rw [e, c4, show w = 3 by omega]; rfl
