/-! ===== what holds between the law's calls ===== -/
theorem sem_eq {h h' : ah_T} (f : ∀ a, a < 170 → same3 h h' a) (H : sem h) : sem h' := by
  obtain ⟨h1, h2⟩ := H
  refine ⟨fun i hi hk => ?_, fun v hv e he => ?_⟩
  · rw [(f 9 (by decide)).1] at hi
    rw [(f 10 (by decide)).1] at hk
    rw [(f 12 (by decide)).1, (f 13 (by decide)).1]
    exact h1 i hi hk
  · have hv1 : v + 12 < 170 := by unfold isV at hv; omega
    rw [(f v (by omega)).1] at he
    rw [(f (v + 11) (by omega)).2.1, (f (v + 12) hv1).2.1]
    exact h2 v hv e he
theorem LX_m {P : Nat → Nat → Bool} {s : Nat} {h h' : ah_T} (hx : xi s h) (hk : kM P h h') : xi s h' := by
  obtain ⟨x1, x2, x3, x4, x5, x6, x7, x8⟩ := hx
  have f := hk.2.1
  refine ⟨hk.1.1, x2, ?_, ?_, ?_, fun q hq => ?_, fun a k ha => ?_, sem_eq f x8⟩
  · rw [(f 0 (by decide)).2.2]; exact x3
  · rw [(f 2 (by decide)).2.2]; exact x4
  · rw [(f 3 (by decide)).2.2]; exact x5
  · have hb : ∀ q ∈ rf_L, q.1 < 170 := by decide +kernel
    rw [(f q.1 (hb q hq)).2.2]; exact x6 q hq
  · rw [(f a ha).1]; exact x7 a k ha
theorem LM_x {s : Nat} {h h' : ah_T} (hm : mi h) (hp : PX h) (hx : xi s h') (f : ∀ a, 170 ≤ a → same3 h h' a) : mi h' ∧ PX h' ∧ h'.2.1 170 1 = h.2.1 170 1 := by
  have g : ∀ a k, 170 ≤ a → h'.2.1 a k = h.2.1 a k := fun a k ha => congrFun (f a ha).1 k
  have gl : ∀ a, 170 ≤ a → h'.2.2.1 a = h.2.2.1 a := fun a ha => (f a ha).2.1
  refine ⟨⟨hx.1, fun q hq => ?_, fun a k h1 h2 => ?_, fun a k h1 h2 => ?_⟩, PX_p hm hp ⟨LF_a ⟨fun a ha => gl a ?_, fun a ha => (f a ?_).1⟩, g 172 0 (by decide), fun k _ => ⟨g 178 k (by decide), g 179 k (by decide), g 180 k (by decide)⟩, g 177 0 (by decide), fun k _ => g 182 k (by decide), g 181 0 (by decide)⟩ (gl 231 (by decide)) (g 170 98 (by decide)) (g 170 80 (by decide)), g 170 1 (by decide)⟩
  · rw [(f 170 (by decide)).2.2]; exact hm.2.1 q hq
  · rw [g a k h1]; exact hm.2.2.1 a k h1 h2
  · rw [gl a h1]; exact hm.2.2.2 a k h1 h2
  · simp only [List.mem_cons, List.not_mem_nil, or_false] at ha; omega
  · simp only [List.mem_cons, List.not_mem_nil, or_false] at ha; omega
theorem PX_j {P : Nat → Nat → Bool} {q q' : ah_T} (H : PX q) (hx : mi q) (kn : kM P q q') (hP : SAP P) (hQ : ∀ a, a ∈ [172, 177, 178, 179, 180, 181, 182] → ∀ j, P a j = false) (p1 : ∀ j, P 231 j = false) (p2 : P 170 98 = false) (e80 : q'.2.1 170 80 ≤ 8000) : PX q' := by
  obtain ⟨h1, h2, h3, h4, -⟩ := H
  have pp := PP_k kn hP hQ
  obtain ⟨y1, y2, y3⟩ := PP_K hx pp h1 h2 h3
  exact ⟨y1, y2, y3, TP_e hx pp.2 (funext fun j => kn.2.2.2 231 j (p1 j)) (kn.2.2.1 170 98 p2) h4, e80⟩
theorem PX_r {P : Nat → Nat → Bool} {q q' : ah_T} (H : PX q) (hx : mi q) (kn : kM P q q') (hP : SAP P) (hQ : ∀ a, a ∈ [172, 177, 178, 179, 180, 181, 182] → ∀ j, P a j = false) (p3 : P 170 80 = false) (T : TP q') : PX q' := by
  obtain ⟨h1, h2, h3, -, h5⟩ := H
  obtain ⟨y1, y2, y3⟩ := PP_K hx (PP_k kn hP hQ) h1 h2 h3
  exact ⟨y1, y2, y3, T, by rw [kn.2.2.1 170 80 p3]; exact h5⟩
/-! ===== the start ===== -/
theorem hp0_s : hp_0.1 = sh_L := by decide +kernel
set_option maxRecDepth 100000 in
theorem hp0_i : hp_0.2.1 = up2 (up2 (up2 (up2 (up2 (up2 (up2 (fun _ _ => 0) 0 1 0) 17 2 4) 17 3 4) 80 2 4) 80 3 4) 0 4 (-2)) 170 13 (-2) := rfl
set_option maxRecDepth 100000 in
theorem hp0_l : hp_0.2.2.1 = fun _ _ => 0 := rfl
theorem hp0_m {a k : Nat} (ha : 170 ≤ a) : hp_0.2.1 a k = if a = 170 ∧ k = 13 then -2 else 0 := by
  rw [hp0_i]
  show (if a = 170 ∧ k = 13 then (-2 : Int) else up2 (up2 (up2 (up2 (up2 (up2 (fun _ _ => 0) 0 1 0) 17 2 4) 17 3 4) 80 2 4) 80 3 4) 0 4 (-2) a k) = _
  have e : up2 (up2 (up2 (up2 (up2 (up2 (fun _ _ => (0 : Int)) 0 1 0) 17 2 4) 17 3 4) 80 2 4) 80 3 4) 0 4 (-2) a k = 0 := by
    rw [up2_n (by omega), up2_n (by omega), up2_n (by omega), up2_n (by omega), up2_n (by omega), up2_n (by omega)]
  rw [e]
def okr (q : Int × Int) : Bool := decide (q.1 ≤ 0) && decide (0 ≤ q.2)
theorem okr_t {q : Int × Int} (h : okr q = true) : q.1 ≤ 0 ∧ 0 ≤ q.2 := by
  unfold okr at h
  simp only [Bool.and_eq_true, decide_eq_true_eq] at h
  exact h
def oko : Option (Int × Int) → Bool
  | some q => okr q
  | none => true
theorem mr_0 (a k : Nat) : (mr a k).1 ≤ 0 ∧ 0 ≤ (mr a k).2 := by
  have h1 : ma_L.all oko = true := by decide +kernel
  have h2 : mo_L.all (fun q => okr q.2) = true := by decide +kernel
  have hf : ∀ k, (match mo_L.find? (fun q : Nat × Int × Int => q.1 == k) with
    | some q => q.2
    | none => ((-2147483648 : Int), (2147483647 : Int))).1 ≤ 0 ∧ 0 ≤ (match mo_L.find? (fun q : Nat × Int × Int => q.1 == k) with
    | some q => q.2
    | none => ((-2147483648 : Int), (2147483647 : Int))).2 := by
    intro k
    cases e : mo_L.find? (fun q : Nat × Int × Int => q.1 == k) with
    | none => exact ⟨by decide, by decide⟩
    | some q => exact okr_t (List.all_eq_true.mp h2 q (List.mem_of_find?_eq_some e))
  unfold mr
  cases e : ma_L[a - 170]? with
  | none => exact hf k
  | some o =>
    cases o with
    | none => exact hf k
    | some q => exact okr_t (List.all_eq_true.mp h1 (some q) (List.mem_of_getElem? e))
theorem mq_0 (a k : Nat) : (mq a k).1 ≤ 0 ∧ 0 ≤ (mq a k).2 := by
  have h1 : mb_L.all oko = true := by decide +kernel
  have h2 : mp_L.all (fun q => okr q.2) = true := by decide +kernel
  have hf : ∀ k, (match mp_L.find? (fun q : Nat × Int × Int => q.1 == k) with
    | some q => q.2
    | none => ((-9223372036854775808 : Int), (9223372036854775807 : Int))).1 ≤ 0 ∧ 0 ≤ (match mp_L.find? (fun q : Nat × Int × Int => q.1 == k) with
    | some q => q.2
    | none => ((-9223372036854775808 : Int), (9223372036854775807 : Int))).2 := by
    intro k
    cases e : mp_L.find? (fun q : Nat × Int × Int => q.1 == k) with
    | none => exact ⟨by decide, by decide⟩
    | some q => exact okr_t (List.all_eq_true.mp h2 q (List.mem_of_find?_eq_some e))
  unfold mq
  cases e : mb_L[a - 170]? with
  | none => exact hf k
  | some o =>
    cases o with
    | none => exact hf k
    | some q => exact okr_t (List.all_eq_true.mp h1 (some q) (List.mem_of_getElem? e))
theorem mi_0 : mi hp_0 := by
  refine ⟨hp0_s, by decide +kernel, fun a k h1 _ => ?_, fun a k _ _ => ?_⟩
  · rw [hp0_m h1]
    split
    · rename_i e
      rw [e.1, e.2, show mr 170 13 = (-2, 2000) by decide +kernel]
      decide
    · exact mr_0 a k
  · rw [hp0_l]
    exact mq_0 a k
theorem rg_0 (a k : Nat) : (rg a k).1 ≤ 0 ∧ 0 ≤ (rg a k).2 := by
  have h1 : ra_L.all oko = true := by decide +kernel
  have h2 : ro_L.all (fun q => okr q.2.2) = true := by decide +kernel
  have hf : ∀ a k, (match ro_L.find? (fun q : Nat × Nat × Int × Int => q.1 == a && q.2.1 == k) with
    | some q => q.2.2
    | none => ((-2147483648 : Int), (2147483647 : Int))).1 ≤ 0 ∧ 0 ≤ (match ro_L.find? (fun q : Nat × Nat × Int × Int => q.1 == a && q.2.1 == k) with
    | some q => q.2.2
    | none => ((-2147483648 : Int), (2147483647 : Int))).2 := by
    intro a k
    cases e : ro_L.find? (fun q : Nat × Nat × Int × Int => q.1 == a && q.2.1 == k) with
    | none => exact ⟨by decide, by decide⟩
    | some q => exact okr_t (List.all_eq_true.mp h2 q (List.mem_of_find?_eq_some e))
  unfold rg
  cases e : ra_L[a]? with
  | none => exact hf a k
  | some o =>
    cases o with
    | none => exact hf a k
    | some q => exact okr_t (List.all_eq_true.mp h1 (some q) (List.mem_of_getElem? e))
theorem up2_r {f : Nat → Nat → Int} {a0 k0 : Nat} {z : Int} (h : ∀ a k, (rg a k).1 ≤ f a k ∧ f a k ≤ (rg a k).2) (hz : (rg a0 k0).1 ≤ z ∧ z ≤ (rg a0 k0).2) : ∀ a k, (rg a k).1 ≤ up2 f a0 k0 z a k ∧ up2 f a0 k0 z a k ≤ (rg a k).2 := by
  intro a k
  by_cases hc : a = a0 ∧ k = k0
  · obtain ⟨rfl, rfl⟩ := hc
    rw [up2_at]
    exact hz
  · rw [up2_o hc]
    exact h a k
theorem up2_q {f : Nat → Nat → Int} {z : Int} {a k : Nat} (h : (rg a k).1 ≤ f a k ∧ f a k ≤ (rg a k).2) (ha : a < 170) : (rg a k).1 ≤ up2 f 170 13 z a k ∧ up2 f 170 13 z a k ≤ (rg a k).2 := by
  rw [up2_n (by omega)]
  exact h
theorem xi_0 : xi 17 hp_0 := by
  refine ⟨hp0_s, Or.inl rfl, by decide +kernel, by decide +kernel, ?_, by decide +kernel, fun a k ha => ?_, fun i hi _ => ?_, fun v hv e he => ?_⟩
  · decide +kernel
  · rw [hp0_i]
    exact up2_q (up2_r (up2_r (up2_r (up2_r (up2_r (up2_r (fun a k => rg_0 a k) (by decide +kernel)) (by decide +kernel)) (by decide +kernel)) (by decide +kernel)) (by decide +kernel)) (by decide +kernel) a k) ha
  · have h0 : hp_0.2.1 9 4 = 0 := by decide +kernel
    omega
  · have h0 : hp_0.2.1 v 14 = 0 := by
      rcases hv with rfl | rfl | rfl | rfl | rfl | rfl | rfl | rfl <;> decide +kernel
    omega
theorem PX_0 : PX hp_0 := by
  have h1 : hp_0.2.1 172 0 = 0 := by decide +kernel
  have h2 : hp_0.2.1 177 0 = 0 := by decide +kernel
  have h3 : hp_0.2.1 170 98 = 0 := by decide +kernel
  have h4 : hp_0.2.1 170 80 = 0 := by decide +kernel
  exact ⟨fun w hw => by omega, fun w hw => by omega, fun r hr => by omega, fun h => by omega, by omega⟩

/-! ===== the start of what the law carries ===== -/
theorem hp0_g {a k : Nat} (h : ¬ (a = 0 ∧ k = 1)) (h1 : ¬ (a = 17 ∧ k = 2)) (h2 : ¬ (a = 17 ∧ k = 3)) (h3 : ¬ (a = 80 ∧ k = 2)) (h4 : ¬ (a = 80 ∧ k = 3)) (h5 : ¬ (a = 0 ∧ k = 4)) (h6 : ¬ (a = 170 ∧ k = 13)) : hp_0.2.1 a k = 0 := by
  rw [hp0_i, up2_o h6, up2_o h5, up2_o h4, up2_o h3, up2_o h2, up2_o h1, up2_o h]
theorem EX_0 : EX 17 hp_0 := by
  have g : ∀ a k, ¬ (a = 17 ∧ k = 2) → ¬ (a = 17 ∧ k = 3) → ¬ (a = 80 ∧ k = 2) → ¬ (a = 80 ∧ k = 3) → ¬ (a = 0 ∧ k = 4) → ¬ (a = 170 ∧ k = 13) → hp_0.2.1 a k = 0 := by
    intro a k h1 h2 h3 h4 h5 h6
    by_cases h : a = 0 ∧ k = 1
    · obtain ⟨rfl, rfl⟩ := h
      rw [hp0_i]; simp [up2]
    · exact hp0_g h h1 h2 h3 h4 h5 h6
  have m0 : ∀ a k, ¬ (a = 0 ∧ k = 1) → ¬ (a = 0 ∧ k = 2) → sco0 a k = 0 := fun a k q1 q2 => by
    unfold sco0
    rw [up2_o q2, up2_o q1]
  have m1 : sco0 0 1 = 4 := by unfold sco0; simp [up2]
  have m2 : sco0 0 2 = 4 := by unfold sco0; simp [up2]
  have z0 : ∀ k, k ≠ 1 → k ≠ 2 → sco0 0 k = 0 := fun k q1 q2 => m0 0 k (by omega) (by omega)
  refine ⟨⟨fun _ => 0, 0, by decide, ⟨g 0 1 (by decide) (by decide) (by decide) (by decide) (by decide) (by decide), fun j hj => by omega⟩, ⟨g 170 1 (by decide) (by decide) (by decide) (by decide) (by decide) (by decide), fun j hj => by omega⟩⟩, ?_, sco0, ?_, ?_, ?_, ?_, Or.inr rfl, fun q => ?_⟩
  · rw [hp0_i]; simp [up2]
  · refine ⟨⟨?_, ?_, ?_, ?_, ?_, ?_⟩, ?_, fun j hj => ?_, fun j hj => ?_, fun j hj => ?_, fun n hn => ?_⟩
    · rw [z0 7 (by decide) (by decide)]; exact g 80 1 (by decide) (by decide) (by decide) (by decide) (by decide) (by decide)
    · rw [m1, hp0_i]; simp [up2]
    · rw [m2, hp0_i]; simp [up2]
    · rw [z0 3 (by decide) (by decide)]; exact g 80 6 (by decide) (by decide) (by decide) (by decide) (by decide) (by decide)
    · rw [z0 4 (by decide) (by decide)]; exact g 80 10 (by decide) (by decide) (by decide) (by decide) (by decide) (by decide)
    · rw [z0 5 (by decide) (by decide)]; exact g 80 12 (by decide) (by decide) (by decide) (by decide) (by decide) (by decide)
    · rw [z0 3 (by decide) (by decide), z0 4 (by decide) (by decide), z0 5 (by decide) (by decide), z0 7 (by decide) (by decide)]; decide
    · rw [z0 3 (by decide) (by decide)] at hj; omega
    · rw [z0 4 (by decide) (by decide)] at hj; omega
    · rw [z0 5 (by decide) (by decide)] at hj; omega
    · rw [z0 7 (by decide) (by decide)] at hn; omega
  · refine ⟨⟨?_, ?_, ?_, ?_⟩, ?_, fun j hj => ?_, fun j hj => ?_, fun j hj => ?_, fun n hn => ?_⟩
    · rw [z0 7 (by decide) (by decide)]; exact g 172 0 (by decide) (by decide) (by decide) (by decide) (by decide) (by decide)
    · rw [z0 3 (by decide) (by decide)]; exact g 175 0 (by decide) (by decide) (by decide) (by decide) (by decide) (by decide)
    · rw [z0 4 (by decide) (by decide)]; exact g 177 0 (by decide) (by decide) (by decide) (by decide) (by decide) (by decide)
    · rw [z0 5 (by decide) (by decide)]; exact g 181 0 (by decide) (by decide) (by decide) (by decide) (by decide) (by decide)
    · rw [z0 3 (by decide) (by decide), z0 4 (by decide) (by decide), z0 5 (by decide) (by decide), z0 7 (by decide) (by decide)]; decide
    · rw [z0 3 (by decide) (by decide)] at hj; omega
    · rw [z0 4 (by decide) (by decide)] at hj; omega
    · rw [z0 5 (by decide) (by decide)] at hj; omega
    · rw [z0 7 (by decide) (by decide)] at hn; omega
  · rw [g 173 0 (by decide) (by decide) (by decide) (by decide) (by decide) (by decide), m1]; rfl
  · rw [g 174 0 (by decide) (by decide) (by decide) (by decide) (by decide) (by decide), m2]; rfl
  · rw [z0 7 (by decide) (by decide)] at q; omega
