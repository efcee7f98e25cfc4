/-! ===== what holds between the law's calls ===== -/
theorem sem_eq {h h' : ah_T} (f : ∀ a, a < 170 → same3 h h' a) (H : sem h) : sem h' := by
  obtain ⟨h1, h2⟩ := H
  refine ⟨fun i hi hk => ?_, fun v hv e he => ?_⟩
  · rw [(f 9 (by decide)).1] at hi
    rw [(f 10 (by decide)).1] at hk
    rw [(f 12 (by decide)).1, (f 13 (by decide)).1]
    exact h1 i hi hk
  · have hv1 : v + 12 < 170 := by unfold isV at hv; omega
    rw [(f v (by omega)).1] at he
    rw [(f (v + 11) (by omega)).2.1, (f (v + 12) hv1).2.1]
    exact h2 v hv e he
theorem LX_m {P : Nat → Nat → Bool} {s : Nat} {h h' : ah_T} (hx : xi s h) (hk : kM P h h') : xi s h' := by
  obtain ⟨x1, x2, x3, x4, x5, x6, x7, x8⟩ := hx
  have f := hk.2.1
  refine ⟨hk.1.1, x2, ?_, ?_, ?_, fun q hq => ?_, fun a k ha => ?_, sem_eq f x8⟩
  · rw [(f 0 (by decide)).2.2]; exact x3
  · rw [(f 2 (by decide)).2.2]; exact x4
  · rw [(f 3 (by decide)).2.2]; exact x5
  · have hb : ∀ q ∈ rf_L, q.1 < 170 := by decide +kernel
    rw [(f q.1 (hb q hq)).2.2]; exact x6 q hq
  · rw [(f a ha).1]; exact x7 a k ha
theorem LM_x {s : Nat} {h h' : ah_T} (hm : mi h) (hp : PX h) (hx : xi s h') (f : ∀ a, 170 ≤ a → same3 h h' a) : mi h' ∧ PX h' ∧ h'.2.1 170 1 = h.2.1 170 1 := by
  have g : ∀ a k, 170 ≤ a → h'.2.1 a k = h.2.1 a k := fun a k ha => congrFun (f a ha).1 k
  have gl : ∀ a, 170 ≤ a → h'.2.2.1 a = h.2.2.1 a := fun a ha => (f a ha).2.1
  refine ⟨⟨hx.1, fun q hq => ?_, fun a k h1 h2 => ?_, fun a k h1 h2 => ?_⟩, PX_p hm hp ⟨LF_a ⟨fun a ha => gl a ?_, fun a ha => (f a ?_).1⟩, g 172 0 (by decide), fun k _ => ⟨g 178 k (by decide), g 179 k (by decide), g 180 k (by decide)⟩, g 177 0 (by decide), fun k _ => g 182 k (by decide), g 181 0 (by decide)⟩ (gl 231 (by decide)) (g 170 98 (by decide)) (g 170 80 (by decide)), g 170 1 (by decide)⟩
  · rw [(f 170 (by decide)).2.2]; exact hm.2.1 q hq
  · rw [g a k h1]; exact hm.2.2.1 a k h1 h2
  · rw [gl a h1]; exact hm.2.2.2 a k h1 h2
  · simp only [List.mem_cons, List.not_mem_nil, or_false] at ha; omega
  · simp only [List.mem_cons, List.not_mem_nil, or_false] at ha; omega
theorem PX_j {P : Nat → Nat → Bool} {q q' : ah_T} (H : PX q) (hx : mi q) (kn : kM P q q') (hP : SAP P) (hQ : ∀ a, a ∈ [172, 177, 178, 179, 180, 181, 182] → ∀ j, P a j = false) (p1 : ∀ j, P 231 j = false) (p2 : P 170 98 = false) (e80 : q'.2.1 170 80 ≤ 8000) : PX q' := by
  obtain ⟨h1, h2, h3, h4, -⟩ := H
  have pp := PP_k kn hP hQ
  obtain ⟨y1, y2, y3⟩ := PP_K hx pp h1 h2 h3
  exact ⟨y1, y2, y3, TP_e hx pp.2 (funext fun j => kn.2.2.2 231 j (p1 j)) (kn.2.2.1 170 98 p2) h4, e80⟩
theorem PX_r {P : Nat → Nat → Bool} {q q' : ah_T} (H : PX q) (hx : mi q) (kn : kM P q q') (hP : SAP P) (hQ : ∀ a, a ∈ [172, 177, 178, 179, 180, 181, 182] → ∀ j, P a j = false) (p3 : P 170 80 = false) (T : TP q') : PX q' := by
  obtain ⟨h1, h2, h3, -, h5⟩ := H
  obtain ⟨y1, y2, y3⟩ := PP_K hx (PP_k kn hP hQ) h1 h2 h3
  exact ⟨y1, y2, y3, T, by rw [kn.2.2.1 170 80 p3]; exact h5⟩
/-! ===== the start ===== -/
theorem hp0_s : hp_0.1 = sh_L := by decide +kernel
set_option maxRecDepth 100000 in
theorem hp0_i : hp_0.2.1 = up2 (up2 (up2 (up2 (up2 (up2 (up2 (fun _ _ => 0) 0 1 0) 17 2 4) 17 3 4) 80 2 4) 80 3 4) 0 4 (-2)) 170 13 (-2) := rfl
set_option maxRecDepth 100000 in
theorem hp0_l : hp_0.2.2.1 = fun _ _ => 0 := rfl
theorem hp0_m {a k : Nat} (ha : 170 ≤ a) : hp_0.2.1 a k = if a = 170 ∧ k = 13 then -2 else 0 := by
  rw [hp0_i]
  show (if a = 170 ∧ k = 13 then (-2 : Int) else up2 (up2 (up2 (up2 (up2 (up2 (fun _ _ => 0) 0 1 0) 17 2 4) 17 3 4) 80 2 4) 80 3 4) 0 4 (-2) a k) = _
  have e : up2 (up2 (up2 (up2 (up2 (up2 (fun _ _ => (0 : Int)) 0 1 0) 17 2 4) 17 3 4) 80 2 4) 80 3 4) 0 4 (-2) a k = 0 := by
    rw [up2_n (by omega), up2_n (by omega), up2_n (by omega), up2_n (by omega), up2_n (by omega), up2_n (by omega)]
  rw [e]
def okr (q : Int × Int) : Bool := decide (q.1 ≤ 0) && decide (0 ≤ q.2)
theorem okr_t {q : Int × Int} (h : okr q = true) : q.1 ≤ 0 ∧ 0 ≤ q.2 := by
  unfold okr at h
  simp only [Bool.and_eq_true, decide_eq_true_eq] at h
  exact h
def oko : Option (Int × Int) → Bool
  | some q => okr q
  | none => true
theorem mr_0 (a k : Nat) : (mr a k).1 ≤ 0 ∧ 0 ≤ (mr a k).2 := by
  have h1 : ma_L.all oko = true := by decide +kernel
  have h2 : mo_L.all (fun q => okr q.2) = true := by decide +kernel
  have hf : ∀ k, (match mo_L.find? (fun q : Nat × Int × Int => q.1 == k) with
    | some q => q.2
    | none => ((-2147483648 : Int), (2147483647 : Int))).1 ≤ 0 ∧ 0 ≤ (match mo_L.find? (fun q : Nat × Int × Int => q.1 == k) with
    | some q => q.2
    | none => ((-2147483648 : Int), (2147483647 : Int))).2 := by
    intro k
    cases e : mo_L.find? (fun q : Nat × Int × Int => q.1 == k) with
    | none => exact ⟨by decide, by decide⟩
    | some q => exact okr_t (List.all_eq_true.mp h2 q (List.mem_of_find?_eq_some e))
  unfold mr
  cases e : ma_L[a - 170]? with
  | none => exact hf k
  | some o =>
    cases o with
    | none => exact hf k
    | some q => exact okr_t (List.all_eq_true.mp h1 (some q) (List.mem_of_getElem? e))
theorem mq_0 (a k : Nat) : (mq a k).1 ≤ 0 ∧ 0 ≤ (mq a k).2 := by
  have h1 : mb_L.all oko = true := by decide +kernel
  have h2 : mp_L.all (fun q => okr q.2) = true := by decide +kernel
  have hf : ∀ k, (match mp_L.find? (fun q : Nat × Int × Int => q.1 == k) with
    | some q => q.2
    | none => ((-9223372036854775808 : Int), (9223372036854775807 : Int))).1 ≤ 0 ∧ 0 ≤ (match mp_L.find? (fun q : Nat × Int × Int => q.1 == k) with
    | some q => q.2
    | none => ((-9223372036854775808 : Int), (9223372036854775807 : Int))).2 := by
    intro k
    cases e : mp_L.find? (fun q : Nat × Int × Int => q.1 == k) with
    | none => exact ⟨by decide, by decide⟩
    | some q => exact okr_t (List.all_eq_true.mp h2 q (List.mem_of_find?_eq_some e))
  unfold mq
  cases e : mb_L[a - 170]? with
  | none => exact hf k
  | some o =>
    cases o with
    | none => exact hf k
    | some q => exact okr_t (List.all_eq_true.mp h1 (some q) (List.mem_of_getElem? e))
theorem mi_0 : mi hp_0 := by
  refine ⟨hp0_s, by decide +kernel, fun a k h1 _ => ?_, fun a k _ _ => ?_⟩
  · rw [hp0_m h1]
    split
    · rename_i e
      rw [e.1, e.2, show mr 170 13 = (-2, 2000) by decide +kernel]
      decide
    · exact mr_0 a k
  · rw [hp0_l]
    exact mq_0 a k
theorem rg_0 (a k : Nat) : (rg a k).1 ≤ 0 ∧ 0 ≤ (rg a k).2 := by
  have h1 : ra_L.all oko = true := by decide +kernel
  have h2 : ro_L.all (fun q => okr q.2.2) = true := by decide +kernel
  have hf : ∀ a k, (match ro_L.find? (fun q : Nat × Nat × Int × Int => q.1 == a && q.2.1 == k) with
    | some q => q.2.2
    | none => ((-2147483648 : Int), (2147483647 : Int))).1 ≤ 0 ∧ 0 ≤ (match ro_L.find? (fun q : Nat × Nat × Int × Int => q.1 == a && q.2.1 == k) with
    | some q => q.2.2
    | none => ((-2147483648 : Int), (2147483647 : Int))).2 := by
    intro a k
    cases e : ro_L.find? (fun q : Nat × Nat × Int × Int => q.1 == a && q.2.1 == k) with
    | none => exact ⟨by decide, by decide⟩
    | some q => exact okr_t (List.all_eq_true.mp h2 q (List.mem_of_find?_eq_some e))
  unfold rg
  cases e : ra_L[a]? with
  | none => exact hf a k
  | some o =>
    cases o with
    | none => exact hf a k
    | some q => exact okr_t (List.all_eq_true.mp h1 (some q) (List.mem_of_getElem? e))
theorem up2_r {f : Nat → Nat → Int} {a0 k0 : Nat} {z : Int} (h : ∀ a k, (rg a k).1 ≤ f a k ∧ f a k ≤ (rg a k).2) (hz : (rg a0 k0).1 ≤ z ∧ z ≤ (rg a0 k0).2) : ∀ a k, (rg a k).1 ≤ up2 f a0 k0 z a k ∧ up2 f a0 k0 z a k ≤ (rg a k).2 := by
  intro a k
  by_cases hc : a = a0 ∧ k = k0
  · obtain ⟨rfl, rfl⟩ := hc
    rw [up2_at]
    exact hz
  · rw [up2_o hc]
    exact h a k
theorem up2_q {f : Nat → Nat → Int} {z : Int} {a k : Nat} (h : (rg a k).1 ≤ f a k ∧ f a k ≤ (rg a k).2) (ha : a < 170) : (rg a k).1 ≤ up2 f 170 13 z a k ∧ up2 f 170 13 z a k ≤ (rg a k).2 := by
  rw [up2_n (by omega)]
  exact h
theorem xi_0 : xi 17 hp_0 := by
  refine ⟨hp0_s, Or.inl rfl, by decide +kernel, by decide +kernel, ?_, by decide +kernel, fun a k ha => ?_, fun i hi _ => ?_, fun v hv e he => ?_⟩
  · decide +kernel
  · rw [hp0_i]
    exact up2_q (up2_r (up2_r (up2_r (up2_r (up2_r (up2_r (fun a k => rg_0 a k) (by decide +kernel)) (by decide +kernel)) (by decide +kernel)) (by decide +kernel)) (by decide +kernel)) (by decide +kernel) a k) ha
  · have h0 : hp_0.2.1 9 4 = 0 := by decide +kernel
    omega
  · have h0 : hp_0.2.1 v 14 = 0 := by
      rcases hv with rfl | rfl | rfl | rfl | rfl | rfl | rfl | rfl <;> decide +kernel
    omega
theorem PX_0 : PX hp_0 := by
  have h1 : hp_0.2.1 172 0 = 0 := by decide +kernel
  have h2 : hp_0.2.1 177 0 = 0 := by decide +kernel
  have h3 : hp_0.2.1 170 98 = 0 := by decide +kernel
  have h4 : hp_0.2.1 170 80 = 0 := by decide +kernel
  exact ⟨fun w hw => by omega, fun w hw => by omega, fun r hr => by omega, fun h => by omega, by omega⟩

/-! ===== the start of what the law carries ===== -/
theorem hp0_g {a k : Nat} (h : ¬ (a = 0 ∧ k = 1)) (h1 : ¬ (a = 17 ∧ k = 2)) (h2 : ¬ (a = 17 ∧ k = 3)) (h3 : ¬ (a = 80 ∧ k = 2)) (h4 : ¬ (a = 80 ∧ k = 3)) (h5 : ¬ (a = 0 ∧ k = 4)) (h6 : ¬ (a = 170 ∧ k = 13)) : hp_0.2.1 a k = 0 := by
  rw [hp0_i, up2_o h6, up2_o h5, up2_o h4, up2_o h3, up2_o h2, up2_o h1, up2_o h]
theorem EX_0 : EX 17 hp_0 := by
  have g : ∀ a k, ¬ (a = 17 ∧ k = 2) → ¬ (a = 17 ∧ k = 3) → ¬ (a = 80 ∧ k = 2) → ¬ (a = 80 ∧ k = 3) → ¬ (a = 0 ∧ k = 4) → ¬ (a = 170 ∧ k = 13) → hp_0.2.1 a k = 0 := by
    intro a k h1 h2 h3 h4 h5 h6
    by_cases h : a = 0 ∧ k = 1
    · obtain ⟨rfl, rfl⟩ := h
      rw [hp0_i]; simp [up2]
    · exact hp0_g h h1 h2 h3 h4 h5 h6
  have m0 : ∀ a k, ¬ (a = 0 ∧ k = 1) → ¬ (a = 0 ∧ k = 2) → sco0 a k = 0 := fun a k q1 q2 => by
    unfold sco0
    rw [up2_o q2, up2_o q1]
  have m1 : sco0 0 1 = 4 := by unfold sco0; simp [up2]
  have m2 : sco0 0 2 = 4 := by unfold sco0; simp [up2]
  have z0 : ∀ k, k ≠ 1 → k ≠ 2 → sco0 0 k = 0 := fun k q1 q2 => m0 0 k (by omega) (by omega)
  refine ⟨⟨fun _ => 0, 0, by decide, ⟨g 0 1 (by decide) (by decide) (by decide) (by decide) (by decide) (by decide), fun j hj => by omega⟩, ⟨g 170 1 (by decide) (by decide) (by decide) (by decide) (by decide) (by decide), fun j hj => by omega⟩⟩, ?_, sco0, ?_, ?_, ?_, ?_, Or.inr rfl, fun q => ?_⟩
  · rw [hp0_i]; simp [up2]
  · refine ⟨⟨?_, ?_, ?_, ?_, ?_, ?_⟩, ?_, fun j hj => ?_, fun j hj => ?_, fun j hj => ?_, fun n hn => ?_⟩
    · rw [z0 7 (by decide) (by decide)]; exact g 80 1 (by decide) (by decide) (by decide) (by decide) (by decide) (by decide)
    · rw [m1, hp0_i]; simp [up2]
    · rw [m2, hp0_i]; simp [up2]
    · rw [z0 3 (by decide) (by decide)]; exact g 80 6 (by decide) (by decide) (by decide) (by decide) (by decide) (by decide)
    · rw [z0 4 (by decide) (by decide)]; exact g 80 10 (by decide) (by decide) (by decide) (by decide) (by decide) (by decide)
    · rw [z0 5 (by decide) (by decide)]; exact g 80 12 (by decide) (by decide) (by decide) (by decide) (by decide) (by decide)
    · rw [z0 3 (by decide) (by decide), z0 4 (by decide) (by decide), z0 5 (by decide) (by decide), z0 7 (by decide) (by decide)]; decide
    · rw [z0 3 (by decide) (by decide)] at hj; omega
    · rw [z0 4 (by decide) (by decide)] at hj; omega
    · rw [z0 5 (by decide) (by decide)] at hj; omega
    · rw [z0 7 (by decide) (by decide)] at hn; omega
  · refine ⟨⟨?_, ?_, ?_, ?_⟩, ?_, fun j hj => ?_, fun j hj => ?_, fun j hj => ?_, fun n hn => ?_⟩
    · rw [z0 7 (by decide) (by decide)]; exact g 172 0 (by decide) (by decide) (by decide) (by decide) (by decide) (by decide)
    · rw [z0 3 (by decide) (by decide)]; exact g 175 0 (by decide) (by decide) (by decide) (by decide) (by decide) (by decide)
    · rw [z0 4 (by decide) (by decide)]; exact g 177 0 (by decide) (by decide) (by decide) (by decide) (by decide) (by decide)
    · rw [z0 5 (by decide) (by decide)]; exact g 181 0 (by decide) (by decide) (by decide) (by decide) (by decide) (by decide)
    · rw [z0 3 (by decide) (by decide), z0 4 (by decide) (by decide), z0 5 (by decide) (by decide), z0 7 (by decide) (by decide)]; decide
    · rw [z0 3 (by decide) (by decide)] at hj; omega
    · rw [z0 4 (by decide) (by decide)] at hj; omega
    · rw [z0 5 (by decide) (by decide)] at hj; omega
    · rw [z0 7 (by decide) (by decide)] at hn; omega
  · rw [g 173 0 (by decide) (by decide) (by decide) (by decide) (by decide) (by decide), m1]; rfl
  · rw [g 174 0 (by decide) (by decide) (by decide) (by decide) (by decide) (by decide), m2]; rfl
  · rw [z0 7 (by decide) (by decide)] at q; omega

def m_Law_law : mr_T := (⟨"PlainMusicLaw", "law", "([I)Z"⟩, code, 8, some .boolean)
theorem d_Law_law_0 : decode code 0 = .ok (.new 7, 3) := by decide +kernel
theorem cl_Law_7 : Cond.classLink "PlainMusicLaw" 7 "PlainMusic" ∈ gw := gwi_155
theorem d_Law_law_3 : decode code 3 = .ok (.dup, 1) := by decide +kernel
theorem d_Law_law_4 : decode code 4 = .ok (.invokespecial 9, 3) := by decide +kernel
theorem l_Law_9 : ml_OK "PlainMusicLaw" 9 ⟨"PlainMusic", "<init>", "()V"⟩ := Or.inl gwi_157
theorem k_PM_init : mt_OK m_PM_init 0 2 := ⟨gwi_159, gwi_134, ⟨by decide +kernel, by decide +kernel, by decide +kernel⟩, fun h => absurd h (by decide), fun h => absurd h (by decide), fun _ => ⟨gwi_158, rfl, rfl⟩⟩
theorem d_Law_law_7 : decode code 7 = .ok (.astore_n 1, 1) := by decide +kernel
theorem d_Law_law_8 : decode code 8 = .ok (.new 10, 3) := by decide +kernel
theorem cl_Law_10 : Cond.classLink "PlainMusicLaw" 10 "PlainMusicModel" ∈ gw := gwi_1476
theorem d_Law_law_11 : decode code 11 = .ok (.dup, 1) := by decide +kernel
theorem d_Law_law_12 : decode code 12 = .ok (.invokespecial 12, 3) := by decide +kernel
theorem l_Law_12 : ml_OK "PlainMusicLaw" 12 ⟨"PlainMusicModel", "<init>", "()V"⟩ := Or.inl gwi_1478
theorem k_MD_init : mt_OK m_MD_init 0 2 := ⟨gwi_1480, gwi_146, ⟨by decide +kernel, by decide +kernel, by decide +kernel⟩, fun h => absurd h (by decide), fun h => absurd h (by decide), fun _ => ⟨gwi_1479, rfl, rfl⟩⟩
theorem d_Law_law_15 : decode code 15 = .ok (.astore_n 2, 1) := by decide +kernel
theorem d_Law_law_16 : decode code 16 = .ok (.iconst 0, 1) := by decide +kernel
theorem d_Law_law_17 : decode code 17 = .ok (.istore_n 3, 1) := by decide +kernel
theorem d_Law_law_18 : decode code 18 = .ok (.iload_n 3, 1) := by decide +kernel
theorem d_Law_law_19 : decode code 19 = .ok (.aload_n 0, 1) := by decide +kernel
theorem d_Law_law_20 : decode code 20 = .ok (.arraylength, 1) := by decide +kernel
theorem d_Law_law_21 : decode code 21 = .ok (.bipush 6, 2) := by decide +kernel
theorem d_Law_law_23 : decode code 23 = .ok (.isub, 1) := by decide +kernel
theorem d_Law_law_24 : decode code 24 = .ok (.if_icmp .gt 726, 3) := by decide +kernel
theorem d_Law_law_750 : decode code 750 = .ok (.iconst 1, 1) := by decide +kernel
theorem d_Law_law_751 : decode code 751 = .ok (.ireturn, 1) := by decide +kernel
theorem d_Law_law_27 : decode code 27 = .ok (.aload_n 0, 1) := by decide +kernel
theorem d_Law_law_28 : decode code 28 = .ok (.iload_n 3, 1) := by decide +kernel
theorem d_Law_law_29 : decode code 29 = .ok (.iaload, 1) := by decide +kernel
theorem d_Law_law_30 : decode code 30 = .ok (.bipush 31, 2) := by decide +kernel
theorem d_Law_law_32 : decode code 32 = .ok (.iand, 1) := by decide +kernel
theorem d_Law_law_33 : decode code 33 = .ok (.tableswitch 711 0 21 #[103, 166, 189, 202, 215, 238, 271, 314, 327, 360, 393, 416, 439, 462, 485, 528, 561, 574, 607, 640, 663, 676], 103) := by decide +kernel
theorem d_Law_law_744 : decode code 744 = .ok (.iinc 3 6, 3) := by decide +kernel
theorem d_Law_law_747 : decode code 747 = .ok (.goto (-729), 3) := by decide +kernel
theorem d_Law_law_136 : decode code 136 = .ok (.aload_n 1, 1) := by decide +kernel
theorem d_Law_law_137 : decode code 137 = .ok (.aload_n 0, 1) := by decide +kernel
theorem d_Law_law_138 : decode code 138 = .ok (.iload_n 3, 1) := by decide +kernel
theorem d_Law_law_139 : decode code 139 = .ok (.iconst 1, 1) := by decide +kernel
theorem d_Law_law_140 : decode code 140 = .ok (.iadd, 1) := by decide +kernel
theorem d_Law_law_141 : decode code 141 = .ok (.iaload, 1) := by decide +kernel
theorem d_Law_law_142 : decode code 142 = .ok (.aload_n 0, 1) := by decide +kernel
theorem d_Law_law_143 : decode code 143 = .ok (.iload_n 3, 1) := by decide +kernel
theorem d_Law_law_144 : decode code 144 = .ok (.iconst 2, 1) := by decide +kernel
theorem d_Law_law_145 : decode code 145 = .ok (.iadd, 1) := by decide +kernel
theorem d_Law_law_146 : decode code 146 = .ok (.iaload, 1) := by decide +kernel
theorem d_Law_law_147 : decode code 147 = .ok (.aload_n 0, 1) := by decide +kernel
theorem d_Law_law_148 : decode code 148 = .ok (.iload_n 3, 1) := by decide +kernel
theorem d_Law_law_149 : decode code 149 = .ok (.iconst 3, 1) := by decide +kernel
theorem d_Law_law_150 : decode code 150 = .ok (.iadd, 1) := by decide +kernel
theorem d_Law_law_151 : decode code 151 = .ok (.iaload, 1) := by decide +kernel
theorem d_Law_law_152 : decode code 152 = .ok (.aload_n 0, 1) := by decide +kernel
theorem d_Law_law_153 : decode code 153 = .ok (.iload_n 3, 1) := by decide +kernel
theorem d_Law_law_154 : decode code 154 = .ok (.iconst 4, 1) := by decide +kernel
theorem d_Law_law_155 : decode code 155 = .ok (.iadd, 1) := by decide +kernel
theorem d_Law_law_156 : decode code 156 = .ok (.iaload, 1) := by decide +kernel
theorem d_Law_law_157 : decode code 157 = .ok (.aload_n 0, 1) := by decide +kernel
theorem d_Law_law_158 : decode code 158 = .ok (.iload_n 3, 1) := by decide +kernel
theorem d_Law_law_159 : decode code 159 = .ok (.iconst 5, 1) := by decide +kernel
theorem d_Law_law_160 : decode code 160 = .ok (.iadd, 1) := by decide +kernel
theorem d_Law_law_161 : decode code 161 = .ok (.iaload, 1) := by decide +kernel
theorem d_Law_law_162 : decode code 162 = .ok (.invokevirtual 13, 3) := by decide +kernel
theorem l_Law_13 : ml_OK "PlainMusicLaw" 13 ⟨"PlainMusic", "feed", "(IIIII)I"⟩ := Or.inl gwi_628
theorem k_PM_feed : mt_OK m_PM_feed 5 1 := ⟨gwi_631, gwi_134, ⟨by decide +kernel, by decide +kernel, by decide +kernel⟩, fun h => absurd h (by decide), fun _ => ⟨gwi_629, gwi_630⟩, fun h => absurd h (by decide)⟩
theorem d_Law_law_165 : decode code 165 = .ok (.pop, 1) := by decide +kernel
theorem d_Law_law_166 : decode code 166 = .ok (.aload_n 2, 1) := by decide +kernel
theorem d_Law_law_167 : decode code 167 = .ok (.aload_n 0, 1) := by decide +kernel
theorem d_Law_law_168 : decode code 168 = .ok (.iload_n 3, 1) := by decide +kernel
theorem d_Law_law_169 : decode code 169 = .ok (.iconst 1, 1) := by decide +kernel
theorem d_Law_law_170 : decode code 170 = .ok (.iadd, 1) := by decide +kernel
theorem d_Law_law_171 : decode code 171 = .ok (.iaload, 1) := by decide +kernel
theorem d_Law_law_172 : decode code 172 = .ok (.aload_n 0, 1) := by decide +kernel
theorem d_Law_law_173 : decode code 173 = .ok (.iload_n 3, 1) := by decide +kernel
theorem d_Law_law_174 : decode code 174 = .ok (.iconst 2, 1) := by decide +kernel
theorem d_Law_law_175 : decode code 175 = .ok (.iadd, 1) := by decide +kernel
theorem d_Law_law_176 : decode code 176 = .ok (.iaload, 1) := by decide +kernel
theorem d_Law_law_177 : decode code 177 = .ok (.aload_n 0, 1) := by decide +kernel
theorem d_Law_law_178 : decode code 178 = .ok (.iload_n 3, 1) := by decide +kernel
theorem d_Law_law_179 : decode code 179 = .ok (.iconst 3, 1) := by decide +kernel
theorem d_Law_law_180 : decode code 180 = .ok (.iadd, 1) := by decide +kernel
theorem d_Law_law_181 : decode code 181 = .ok (.iaload, 1) := by decide +kernel
theorem d_Law_law_182 : decode code 182 = .ok (.aload_n 0, 1) := by decide +kernel
theorem d_Law_law_183 : decode code 183 = .ok (.iload_n 3, 1) := by decide +kernel
theorem d_Law_law_184 : decode code 184 = .ok (.iconst 4, 1) := by decide +kernel
theorem d_Law_law_185 : decode code 185 = .ok (.iadd, 1) := by decide +kernel
theorem d_Law_law_186 : decode code 186 = .ok (.iaload, 1) := by decide +kernel
theorem d_Law_law_187 : decode code 187 = .ok (.aload_n 0, 1) := by decide +kernel
theorem d_Law_law_188 : decode code 188 = .ok (.iload_n 3, 1) := by decide +kernel
theorem d_Law_law_189 : decode code 189 = .ok (.iconst 5, 1) := by decide +kernel
theorem d_Law_law_190 : decode code 190 = .ok (.iadd, 1) := by decide +kernel
theorem d_Law_law_191 : decode code 191 = .ok (.iaload, 1) := by decide +kernel
theorem d_Law_law_192 : decode code 192 = .ok (.invokevirtual 17, 3) := by decide +kernel
theorem l_Law_17 : ml_OK "PlainMusicLaw" 17 ⟨"PlainMusicModel", "feed", "(IIIII)I"⟩ := Or.inl gwi_1816
theorem k_MD_feed : mt_OK m_MD_feed 5 1 := ⟨gwi_1819, gwi_146, ⟨by decide +kernel, by decide +kernel, by decide +kernel⟩, fun h => absurd h (by decide), fun _ => ⟨gwi_1817, gwi_1818⟩, fun h => absurd h (by decide)⟩
theorem d_Law_law_195 : decode code 195 = .ok (.pop, 1) := by decide +kernel
theorem d_Law_law_196 : decode code 196 = .ok (.goto 548, 3) := by decide +kernel
theorem d_Law_law_199 : decode code 199 = .ok (.aload_n 1, 1) := by decide +kernel
theorem d_Law_law_200 : decode code 200 = .ok (.aload_n 0, 1) := by decide +kernel
theorem d_Law_law_201 : decode code 201 = .ok (.iload_n 3, 1) := by decide +kernel
theorem d_Law_law_202 : decode code 202 = .ok (.iconst 1, 1) := by decide +kernel
theorem d_Law_law_203 : decode code 203 = .ok (.iadd, 1) := by decide +kernel
theorem d_Law_law_204 : decode code 204 = .ok (.iaload, 1) := by decide +kernel
theorem d_Law_law_205 : decode code 205 = .ok (.invokevirtual 18, 3) := by decide +kernel
theorem l_Law_18 : ml_OK "PlainMusicLaw" 18 ⟨"PlainMusic", "cut", "(I)I"⟩ := Or.inl gwi_636
theorem k_PM_cut : mt_OK m_PM_cut 1 1 := ⟨gwi_639, gwi_134, ⟨by decide +kernel, by decide +kernel, by decide +kernel⟩, fun h => absurd h (by decide), fun _ => ⟨gwi_637, gwi_638⟩, fun h => absurd h (by decide)⟩
theorem d_Law_law_208 : decode code 208 = .ok (.pop, 1) := by decide +kernel
theorem d_Law_law_209 : decode code 209 = .ok (.aload_n 2, 1) := by decide +kernel
theorem d_Law_law_210 : decode code 210 = .ok (.aload_n 0, 1) := by decide +kernel
theorem d_Law_law_211 : decode code 211 = .ok (.iload_n 3, 1) := by decide +kernel
theorem d_Law_law_212 : decode code 212 = .ok (.iconst 1, 1) := by decide +kernel
theorem d_Law_law_213 : decode code 213 = .ok (.iadd, 1) := by decide +kernel
theorem d_Law_law_214 : decode code 214 = .ok (.iaload, 1) := by decide +kernel
theorem d_Law_law_215 : decode code 215 = .ok (.invokevirtual 22, 3) := by decide +kernel
theorem l_Law_22 : ml_OK "PlainMusicLaw" 22 ⟨"PlainMusicModel", "cut", "(I)I"⟩ := Or.inl gwi_1824
theorem k_MD_cut : mt_OK m_MD_cut 1 1 := ⟨gwi_1827, gwi_146, ⟨by decide +kernel, by decide +kernel, by decide +kernel⟩, fun h => absurd h (by decide), fun _ => ⟨gwi_1825, gwi_1826⟩, fun h => absurd h (by decide)⟩
theorem d_Law_law_218 : decode code 218 = .ok (.pop, 1) := by decide +kernel
theorem d_Law_law_219 : decode code 219 = .ok (.goto 525, 3) := by decide +kernel
theorem d_Law_law_222 : decode code 222 = .ok (.aload_n 1, 1) := by decide +kernel
theorem d_Law_law_223 : decode code 223 = .ok (.invokevirtual 23, 3) := by decide +kernel
theorem l_Law_23 : ml_OK "PlainMusicLaw" 23 ⟨"PlainMusic", "score", "()I"⟩ := Or.inl gwi_640
theorem k_PM_score : mt_OK m_PM_score 0 1 := ⟨gwi_643, gwi_134, ⟨by decide +kernel, by decide +kernel, by decide +kernel⟩, fun h => absurd h (by decide), fun _ => ⟨gwi_641, gwi_642⟩, fun h => absurd h (by decide)⟩
theorem d_Law_law_226 : decode code 226 = .ok (.pop, 1) := by decide +kernel
theorem d_Law_law_227 : decode code 227 = .ok (.aload_n 2, 1) := by decide +kernel
theorem d_Law_law_228 : decode code 228 = .ok (.invokevirtual 27, 3) := by decide +kernel
theorem l_Law_27 : ml_OK "PlainMusicLaw" 27 ⟨"PlainMusicModel", "score", "()I"⟩ := Or.inl gwi_1828
theorem k_MD_score : mt_OK m_MD_score 0 1 := ⟨gwi_1831, gwi_146, ⟨by decide +kernel, by decide +kernel, by decide +kernel⟩, fun h => absurd h (by decide), fun _ => ⟨gwi_1829, gwi_1830⟩, fun h => absurd h (by decide)⟩
theorem d_Law_law_231 : decode code 231 = .ok (.pop, 1) := by decide +kernel
theorem d_Law_law_232 : decode code 232 = .ok (.goto 512, 3) := by decide +kernel
theorem d_Law_law_235 : decode code 235 = .ok (.aload_n 1, 1) := by decide +kernel
theorem d_Law_law_236 : decode code 236 = .ok (.invokevirtual 28, 3) := by decide +kernel
theorem l_Law_28 : ml_OK "PlainMusicLaw" 28 ⟨"PlainMusic", "place", "()I"⟩ := Or.inl gwi_1020
theorem k_PM_place : mt_OK m_PM_place 0 1 := ⟨gwi_1023, gwi_134, ⟨by decide +kernel, by decide +kernel, by decide +kernel⟩, fun h => absurd h (by decide), fun _ => ⟨gwi_1021, gwi_1022⟩, fun h => absurd h (by decide)⟩
theorem d_Law_law_239 : decode code 239 = .ok (.pop, 1) := by decide +kernel
theorem d_Law_law_240 : decode code 240 = .ok (.aload_n 2, 1) := by decide +kernel
theorem d_Law_law_241 : decode code 241 = .ok (.invokevirtual 31, 3) := by decide +kernel
theorem l_Law_31 : ml_OK "PlainMusicLaw" 31 ⟨"PlainMusicModel", "place", "()I"⟩ := Or.inl gwi_2005
theorem k_MD_place : mt_OK m_MD_place 0 1 := ⟨gwi_2008, gwi_146, ⟨by decide +kernel, by decide +kernel, by decide +kernel⟩, fun h => absurd h (by decide), fun _ => ⟨gwi_2006, gwi_2007⟩, fun h => absurd h (by decide)⟩
theorem d_Law_law_244 : decode code 244 = .ok (.pop, 1) := by decide +kernel
theorem d_Law_law_245 : decode code 245 = .ok (.goto 499, 3) := by decide +kernel
theorem d_Law_law_248 : decode code 248 = .ok (.aload_n 1, 1) := by decide +kernel
theorem d_Law_law_249 : decode code 249 = .ok (.aload_n 0, 1) := by decide +kernel
theorem d_Law_law_250 : decode code 250 = .ok (.iload_n 3, 1) := by decide +kernel
theorem d_Law_law_251 : decode code 251 = .ok (.iconst 1, 1) := by decide +kernel
theorem d_Law_law_252 : decode code 252 = .ok (.iadd, 1) := by decide +kernel
theorem d_Law_law_253 : decode code 253 = .ok (.iaload, 1) := by decide +kernel
theorem d_Law_law_254 : decode code 254 = .ok (.invokevirtual 32, 3) := by decide +kernel
theorem l_Law_32 : ml_OK "PlainMusicLaw" 32 ⟨"PlainMusic", "told", "(I)I"⟩ := Or.inl gwi_1024
theorem k_PM_told : mt_OK m_PM_told 1 1 := ⟨gwi_1027, gwi_134, ⟨by decide +kernel, by decide +kernel, by decide +kernel⟩, fun h => absurd h (by decide), fun _ => ⟨gwi_1025, gwi_1026⟩, fun h => absurd h (by decide)⟩
theorem d_Law_law_257 : decode code 257 = .ok (.pop, 1) := by decide +kernel
theorem d_Law_law_258 : decode code 258 = .ok (.aload_n 2, 1) := by decide +kernel
theorem d_Law_law_259 : decode code 259 = .ok (.aload_n 0, 1) := by decide +kernel
theorem d_Law_law_260 : decode code 260 = .ok (.iload_n 3, 1) := by decide +kernel
theorem d_Law_law_261 : decode code 261 = .ok (.iconst 1, 1) := by decide +kernel
theorem d_Law_law_262 : decode code 262 = .ok (.iadd, 1) := by decide +kernel
theorem d_Law_law_263 : decode code 263 = .ok (.iaload, 1) := by decide +kernel
theorem d_Law_law_264 : decode code 264 = .ok (.invokevirtual 35, 3) := by decide +kernel
theorem l_Law_35 : ml_OK "PlainMusicLaw" 35 ⟨"PlainMusicModel", "told", "(I)I"⟩ := Or.inl gwi_2009
theorem k_MD_told : mt_OK m_MD_told 1 1 := ⟨gwi_2012, gwi_146, ⟨by decide +kernel, by decide +kernel, by decide +kernel⟩, fun h => absurd h (by decide), fun _ => ⟨gwi_2010, gwi_2011⟩, fun h => absurd h (by decide)⟩
theorem d_Law_law_267 : decode code 267 = .ok (.pop, 1) := by decide +kernel
theorem d_Law_law_268 : decode code 268 = .ok (.goto 476, 3) := by decide +kernel
theorem d_Law_law_271 : decode code 271 = .ok (.aload_n 1, 1) := by decide +kernel
theorem d_Law_law_272 : decode code 272 = .ok (.aload_n 0, 1) := by decide +kernel
theorem d_Law_law_273 : decode code 273 = .ok (.iload_n 3, 1) := by decide +kernel
theorem d_Law_law_274 : decode code 274 = .ok (.iconst 1, 1) := by decide +kernel
theorem d_Law_law_275 : decode code 275 = .ok (.iadd, 1) := by decide +kernel
theorem d_Law_law_276 : decode code 276 = .ok (.iaload, 1) := by decide +kernel
theorem d_Law_law_277 : decode code 277 = .ok (.aload_n 0, 1) := by decide +kernel
theorem d_Law_law_278 : decode code 278 = .ok (.iload_n 3, 1) := by decide +kernel
theorem d_Law_law_279 : decode code 279 = .ok (.iconst 2, 1) := by decide +kernel
theorem d_Law_law_280 : decode code 280 = .ok (.iadd, 1) := by decide +kernel
theorem d_Law_law_281 : decode code 281 = .ok (.iaload, 1) := by decide +kernel
theorem d_Law_law_282 : decode code 282 = .ok (.invokevirtual 36, 3) := by decide +kernel
theorem l_Law_36 : ml_OK "PlainMusicLaw" 36 ⟨"PlainMusic", "count", "(II)I"⟩ := Or.inl gwi_1033
theorem k_PM_count : mt_OK m_PM_count 2 1 := ⟨gwi_1036, gwi_134, ⟨by decide +kernel, by decide +kernel, by decide +kernel⟩, fun h => absurd h (by decide), fun _ => ⟨gwi_1034, gwi_1035⟩, fun h => absurd h (by decide)⟩
theorem d_Law_law_285 : decode code 285 = .ok (.pop, 1) := by decide +kernel
theorem d_Law_law_286 : decode code 286 = .ok (.aload_n 2, 1) := by decide +kernel
theorem d_Law_law_287 : decode code 287 = .ok (.aload_n 0, 1) := by decide +kernel
theorem d_Law_law_288 : decode code 288 = .ok (.iload_n 3, 1) := by decide +kernel
theorem d_Law_law_289 : decode code 289 = .ok (.iconst 1, 1) := by decide +kernel
theorem d_Law_law_290 : decode code 290 = .ok (.iadd, 1) := by decide +kernel
theorem d_Law_law_291 : decode code 291 = .ok (.iaload, 1) := by decide +kernel
theorem d_Law_law_292 : decode code 292 = .ok (.aload_n 0, 1) := by decide +kernel
theorem d_Law_law_293 : decode code 293 = .ok (.iload_n 3, 1) := by decide +kernel
theorem d_Law_law_294 : decode code 294 = .ok (.iconst 2, 1) := by decide +kernel
theorem d_Law_law_295 : decode code 295 = .ok (.iadd, 1) := by decide +kernel
theorem d_Law_law_296 : decode code 296 = .ok (.iaload, 1) := by decide +kernel
theorem d_Law_law_297 : decode code 297 = .ok (.invokevirtual 40, 3) := by decide +kernel
theorem l_Law_40 : ml_OK "PlainMusicLaw" 40 ⟨"PlainMusicModel", "count", "(II)I"⟩ := Or.inl gwi_2017
theorem k_MD_count : mt_OK m_MD_count 2 1 := ⟨gwi_2020, gwi_146, ⟨by decide +kernel, by decide +kernel, by decide +kernel⟩, fun h => absurd h (by decide), fun _ => ⟨gwi_2018, gwi_2019⟩, fun h => absurd h (by decide)⟩
theorem d_Law_law_300 : decode code 300 = .ok (.pop, 1) := by decide +kernel
theorem d_Law_law_301 : decode code 301 = .ok (.goto 443, 3) := by decide +kernel
theorem d_Law_law_304 : decode code 304 = .ok (.aload_n 1, 1) := by decide +kernel
theorem d_Law_law_305 : decode code 305 = .ok (.aload_n 0, 1) := by decide +kernel
theorem d_Law_law_306 : decode code 306 = .ok (.iload_n 3, 1) := by decide +kernel
theorem d_Law_law_307 : decode code 307 = .ok (.iconst 1, 1) := by decide +kernel
theorem d_Law_law_308 : decode code 308 = .ok (.iadd, 1) := by decide +kernel
theorem d_Law_law_309 : decode code 309 = .ok (.iaload, 1) := by decide +kernel
theorem d_Law_law_310 : decode code 310 = .ok (.aload_n 0, 1) := by decide +kernel
theorem d_Law_law_311 : decode code 311 = .ok (.iload_n 3, 1) := by decide +kernel
theorem d_Law_law_312 : decode code 312 = .ok (.iconst 2, 1) := by decide +kernel
theorem d_Law_law_313 : decode code 313 = .ok (.iadd, 1) := by decide +kernel
theorem d_Law_law_314 : decode code 314 = .ok (.iaload, 1) := by decide +kernel
theorem d_Law_law_315 : decode code 315 = .ok (.aload_n 0, 1) := by decide +kernel
theorem d_Law_law_316 : decode code 316 = .ok (.iload_n 3, 1) := by decide +kernel
theorem d_Law_law_317 : decode code 317 = .ok (.iconst 3, 1) := by decide +kernel
theorem d_Law_law_318 : decode code 318 = .ok (.iadd, 1) := by decide +kernel
theorem d_Law_law_319 : decode code 319 = .ok (.iaload, 1) := by decide +kernel
theorem d_Law_law_320 : decode code 320 = .ok (.invokevirtual 41, 3) := by decide +kernel
theorem l_Law_41 : ml_OK "PlainMusicLaw" 41 ⟨"PlainMusic", "event", "(III)J"⟩ := Or.inl gwi_1038
theorem k_PM_event : mt_OK m_PM_event 3 1 := ⟨gwi_1041, gwi_134, ⟨by decide +kernel, by decide +kernel, by decide +kernel⟩, fun h => absurd h (by decide), fun _ => ⟨gwi_1039, gwi_1040⟩, fun h => absurd h (by decide)⟩
theorem d_Law_law_323 : decode code 323 = .ok (.pop2, 1) := by decide +kernel
theorem d_Law_law_324 : decode code 324 = .ok (.aload_n 2, 1) := by decide +kernel
theorem d_Law_law_325 : decode code 325 = .ok (.aload_n 0, 1) := by decide +kernel
theorem d_Law_law_326 : decode code 326 = .ok (.iload_n 3, 1) := by decide +kernel
theorem d_Law_law_327 : decode code 327 = .ok (.iconst 1, 1) := by decide +kernel
theorem d_Law_law_328 : decode code 328 = .ok (.iadd, 1) := by decide +kernel
theorem d_Law_law_329 : decode code 329 = .ok (.iaload, 1) := by decide +kernel
theorem d_Law_law_330 : decode code 330 = .ok (.aload_n 0, 1) := by decide +kernel
theorem d_Law_law_331 : decode code 331 = .ok (.iload_n 3, 1) := by decide +kernel
theorem d_Law_law_332 : decode code 332 = .ok (.iconst 2, 1) := by decide +kernel
theorem d_Law_law_333 : decode code 333 = .ok (.iadd, 1) := by decide +kernel
theorem d_Law_law_334 : decode code 334 = .ok (.iaload, 1) := by decide +kernel
theorem d_Law_law_335 : decode code 335 = .ok (.aload_n 0, 1) := by decide +kernel
theorem d_Law_law_336 : decode code 336 = .ok (.iload_n 3, 1) := by decide +kernel
theorem d_Law_law_337 : decode code 337 = .ok (.iconst 3, 1) := by decide +kernel
theorem d_Law_law_338 : decode code 338 = .ok (.iadd, 1) := by decide +kernel
theorem d_Law_law_339 : decode code 339 = .ok (.iaload, 1) := by decide +kernel
theorem d_Law_law_340 : decode code 340 = .ok (.invokevirtual 45, 3) := by decide +kernel
theorem l_Law_45 : ml_OK "PlainMusicLaw" 45 ⟨"PlainMusicModel", "event", "(III)J"⟩ := Or.inl gwi_2025
theorem k_MD_event_IIIJ : mt_OK m_MD_event_IIIJ 3 1 := ⟨gwi_2028, gwi_146, ⟨by decide +kernel, by decide +kernel, by decide +kernel⟩, fun h => absurd h (by decide), fun _ => ⟨gwi_2026, gwi_2027⟩, fun h => absurd h (by decide)⟩
theorem d_Law_law_343 : decode code 343 = .ok (.pop2, 1) := by decide +kernel
theorem d_Law_law_344 : decode code 344 = .ok (.goto 400, 3) := by decide +kernel
theorem d_Law_law_347 : decode code 347 = .ok (.aload_n 1, 1) := by decide +kernel
theorem d_Law_law_348 : decode code 348 = .ok (.invokevirtual 46, 3) := by decide +kernel
theorem l_Law_46 : ml_OK "PlainMusicLaw" 46 ⟨"PlainMusic", "judge", "()I"⟩ := Or.inl gwi_1072
theorem k_PM_judge : mt_OK m_PM_judge 0 1 := ⟨gwi_1075, gwi_134, ⟨by decide +kernel, by decide +kernel, by decide +kernel⟩, fun h => absurd h (by decide), fun _ => ⟨gwi_1073, gwi_1074⟩, fun h => absurd h (by decide)⟩
theorem d_Law_law_351 : decode code 351 = .ok (.pop, 1) := by decide +kernel
theorem d_Law_law_352 : decode code 352 = .ok (.aload_n 2, 1) := by decide +kernel
theorem d_Law_law_353 : decode code 353 = .ok (.invokevirtual 49, 3) := by decide +kernel
theorem l_Law_49 : ml_OK "PlainMusicLaw" 49 ⟨"PlainMusicModel", "judge", "()I"⟩ := Or.inl gwi_2030
theorem k_MD_judge : mt_OK m_MD_judge 0 1 := ⟨gwi_2033, gwi_146, ⟨by decide +kernel, by decide +kernel, by decide +kernel⟩, fun h => absurd h (by decide), fun _ => ⟨gwi_2031, gwi_2032⟩, fun h => absurd h (by decide)⟩
theorem d_Law_law_356 : decode code 356 = .ok (.pop, 1) := by decide +kernel
theorem d_Law_law_357 : decode code 357 = .ok (.goto 387, 3) := by decide +kernel
theorem d_Law_law_360 : decode code 360 = .ok (.aload_n 1, 1) := by decide +kernel
theorem d_Law_law_361 : decode code 361 = .ok (.aload_n 0, 1) := by decide +kernel
theorem d_Law_law_362 : decode code 362 = .ok (.iload_n 3, 1) := by decide +kernel
theorem d_Law_law_363 : decode code 363 = .ok (.iconst 1, 1) := by decide +kernel
theorem d_Law_law_364 : decode code 364 = .ok (.iadd, 1) := by decide +kernel
theorem d_Law_law_365 : decode code 365 = .ok (.iaload, 1) := by decide +kernel
theorem d_Law_law_366 : decode code 366 = .ok (.aload_n 0, 1) := by decide +kernel
theorem d_Law_law_367 : decode code 367 = .ok (.iload_n 3, 1) := by decide +kernel
theorem d_Law_law_368 : decode code 368 = .ok (.iconst 2, 1) := by decide +kernel
theorem d_Law_law_369 : decode code 369 = .ok (.iadd, 1) := by decide +kernel
theorem d_Law_law_370 : decode code 370 = .ok (.iaload, 1) := by decide +kernel
theorem d_Law_law_371 : decode code 371 = .ok (.invokevirtual 50, 3) := by decide +kernel
theorem l_Law_50 : ml_OK "PlainMusicLaw" 50 ⟨"PlainMusic", "fault", "(II)I"⟩ := Or.inl gwi_1159
theorem k_PM_fault : mt_OK m_PM_fault 2 1 := ⟨gwi_1162, gwi_134, ⟨by decide +kernel, by decide +kernel, by decide +kernel⟩, fun h => absurd h (by decide), fun _ => ⟨gwi_1160, gwi_1161⟩, fun h => absurd h (by decide)⟩
theorem d_Law_law_374 : decode code 374 = .ok (.pop, 1) := by decide +kernel
theorem d_Law_law_375 : decode code 375 = .ok (.aload_n 2, 1) := by decide +kernel
theorem d_Law_law_376 : decode code 376 = .ok (.aload_n 0, 1) := by decide +kernel
theorem d_Law_law_377 : decode code 377 = .ok (.iload_n 3, 1) := by decide +kernel
theorem d_Law_law_378 : decode code 378 = .ok (.iconst 1, 1) := by decide +kernel
theorem d_Law_law_379 : decode code 379 = .ok (.iadd, 1) := by decide +kernel
theorem d_Law_law_380 : decode code 380 = .ok (.iaload, 1) := by decide +kernel
theorem d_Law_law_381 : decode code 381 = .ok (.aload_n 0, 1) := by decide +kernel
theorem d_Law_law_382 : decode code 382 = .ok (.iload_n 3, 1) := by decide +kernel
theorem d_Law_law_383 : decode code 383 = .ok (.iconst 2, 1) := by decide +kernel
theorem d_Law_law_384 : decode code 384 = .ok (.iadd, 1) := by decide +kernel
theorem d_Law_law_385 : decode code 385 = .ok (.iaload, 1) := by decide +kernel
theorem d_Law_law_386 : decode code 386 = .ok (.invokevirtual 53, 3) := by decide +kernel
theorem l_Law_53 : ml_OK "PlainMusicLaw" 53 ⟨"PlainMusicModel", "fault", "(II)I"⟩ := Or.inl gwi_2082
theorem k_MD_fault : mt_OK m_MD_fault 2 1 := ⟨gwi_2085, gwi_146, ⟨by decide +kernel, by decide +kernel, by decide +kernel⟩, fun h => absurd h (by decide), fun _ => ⟨gwi_2083, gwi_2084⟩, fun h => absurd h (by decide)⟩
theorem d_Law_law_389 : decode code 389 = .ok (.pop, 1) := by decide +kernel
theorem d_Law_law_390 : decode code 390 = .ok (.goto 354, 3) := by decide +kernel
theorem d_Law_law_393 : decode code 393 = .ok (.aload_n 1, 1) := by decide +kernel
theorem d_Law_law_394 : decode code 394 = .ok (.aload_n 0, 1) := by decide +kernel
theorem d_Law_law_395 : decode code 395 = .ok (.iload_n 3, 1) := by decide +kernel
theorem d_Law_law_396 : decode code 396 = .ok (.iconst 1, 1) := by decide +kernel
theorem d_Law_law_397 : decode code 397 = .ok (.iadd, 1) := by decide +kernel
theorem d_Law_law_398 : decode code 398 = .ok (.iaload, 1) := by decide +kernel
theorem d_Law_law_399 : decode code 399 = .ok (.aload_n 0, 1) := by decide +kernel
theorem d_Law_law_400 : decode code 400 = .ok (.iload_n 3, 1) := by decide +kernel
theorem d_Law_law_401 : decode code 401 = .ok (.iconst 2, 1) := by decide +kernel
theorem d_Law_law_402 : decode code 402 = .ok (.iadd, 1) := by decide +kernel
theorem d_Law_law_403 : decode code 403 = .ok (.iaload, 1) := by decide +kernel
theorem d_Law_law_404 : decode code 404 = .ok (.invokevirtual 54, 3) := by decide +kernel
theorem l_Law_54 : ml_OK "PlainMusicLaw" 54 ⟨"PlainMusic", "beam", "(II)I"⟩ := Or.inl gwi_1167
theorem k_PM_beam : mt_OK m_PM_beam 2 1 := ⟨gwi_1170, gwi_134, ⟨by decide +kernel, by decide +kernel, by decide +kernel⟩, fun h => absurd h (by decide), fun _ => ⟨gwi_1168, gwi_1169⟩, fun h => absurd h (by decide)⟩
theorem d_Law_law_407 : decode code 407 = .ok (.pop, 1) := by decide +kernel
theorem d_Law_law_408 : decode code 408 = .ok (.aload_n 2, 1) := by decide +kernel
theorem d_Law_law_409 : decode code 409 = .ok (.aload_n 0, 1) := by decide +kernel
theorem d_Law_law_410 : decode code 410 = .ok (.iload_n 3, 1) := by decide +kernel
theorem d_Law_law_411 : decode code 411 = .ok (.iconst 1, 1) := by decide +kernel
theorem d_Law_law_412 : decode code 412 = .ok (.iadd, 1) := by decide +kernel
theorem d_Law_law_413 : decode code 413 = .ok (.iaload, 1) := by decide +kernel
theorem d_Law_law_414 : decode code 414 = .ok (.aload_n 0, 1) := by decide +kernel
theorem d_Law_law_415 : decode code 415 = .ok (.iload_n 3, 1) := by decide +kernel
theorem d_Law_law_416 : decode code 416 = .ok (.iconst 2, 1) := by decide +kernel
theorem d_Law_law_417 : decode code 417 = .ok (.iadd, 1) := by decide +kernel
theorem d_Law_law_418 : decode code 418 = .ok (.iaload, 1) := by decide +kernel
theorem d_Law_law_419 : decode code 419 = .ok (.invokevirtual 57, 3) := by decide +kernel
theorem l_Law_57 : ml_OK "PlainMusicLaw" 57 ⟨"PlainMusicModel", "beam", "(II)I"⟩ := Or.inl gwi_2086
theorem k_MD_beam : mt_OK m_MD_beam 2 1 := ⟨gwi_2089, gwi_146, ⟨by decide +kernel, by decide +kernel, by decide +kernel⟩, fun h => absurd h (by decide), fun _ => ⟨gwi_2087, gwi_2088⟩, fun h => absurd h (by decide)⟩
theorem d_Law_law_422 : decode code 422 = .ok (.pop, 1) := by decide +kernel
theorem d_Law_law_423 : decode code 423 = .ok (.goto 321, 3) := by decide +kernel
theorem d_Law_law_426 : decode code 426 = .ok (.aload_n 1, 1) := by decide +kernel
theorem d_Law_law_427 : decode code 427 = .ok (.aload_n 0, 1) := by decide +kernel
theorem d_Law_law_428 : decode code 428 = .ok (.iload_n 3, 1) := by decide +kernel
theorem d_Law_law_429 : decode code 429 = .ok (.iconst 1, 1) := by decide +kernel
theorem d_Law_law_430 : decode code 430 = .ok (.iadd, 1) := by decide +kernel
theorem d_Law_law_431 : decode code 431 = .ok (.iaload, 1) := by decide +kernel
theorem d_Law_law_432 : decode code 432 = .ok (.invokevirtual 58, 3) := by decide +kernel
theorem l_Law_58 : ml_OK "PlainMusicLaw" 58 ⟨"PlainMusic", "group", "(I)I"⟩ := Or.inl gwi_1197
theorem k_PM_group : mt_OK m_PM_group 1 1 := ⟨gwi_1200, gwi_134, ⟨by decide +kernel, by decide +kernel, by decide +kernel⟩, fun h => absurd h (by decide), fun _ => ⟨gwi_1198, gwi_1199⟩, fun h => absurd h (by decide)⟩
theorem d_Law_law_435 : decode code 435 = .ok (.pop, 1) := by decide +kernel
theorem d_Law_law_436 : decode code 436 = .ok (.aload_n 2, 1) := by decide +kernel
theorem d_Law_law_437 : decode code 437 = .ok (.aload_n 0, 1) := by decide +kernel
theorem d_Law_law_438 : decode code 438 = .ok (.iload_n 3, 1) := by decide +kernel
theorem d_Law_law_439 : decode code 439 = .ok (.iconst 1, 1) := by decide +kernel
theorem d_Law_law_440 : decode code 440 = .ok (.iadd, 1) := by decide +kernel
theorem d_Law_law_441 : decode code 441 = .ok (.iaload, 1) := by decide +kernel
theorem d_Law_law_442 : decode code 442 = .ok (.invokevirtual 61, 3) := by decide +kernel
theorem l_Law_61 : ml_OK "PlainMusicLaw" 61 ⟨"PlainMusicModel", "group", "(I)I"⟩ := Or.inl gwi_2102
theorem k_MD_group : mt_OK m_MD_group 1 1 := ⟨gwi_2105, gwi_146, ⟨by decide +kernel, by decide +kernel, by decide +kernel⟩, fun h => absurd h (by decide), fun _ => ⟨gwi_2103, gwi_2104⟩, fun h => absurd h (by decide)⟩
theorem d_Law_law_445 : decode code 445 = .ok (.pop, 1) := by decide +kernel
theorem d_Law_law_446 : decode code 446 = .ok (.goto 298, 3) := by decide +kernel
theorem d_Law_law_449 : decode code 449 = .ok (.aload_n 1, 1) := by decide +kernel
theorem d_Law_law_450 : decode code 450 = .ok (.aload_n 0, 1) := by decide +kernel
theorem d_Law_law_451 : decode code 451 = .ok (.iload_n 3, 1) := by decide +kernel
theorem d_Law_law_452 : decode code 452 = .ok (.iconst 1, 1) := by decide +kernel
theorem d_Law_law_453 : decode code 453 = .ok (.iadd, 1) := by decide +kernel
theorem d_Law_law_454 : decode code 454 = .ok (.iaload, 1) := by decide +kernel
theorem d_Law_law_455 : decode code 455 = .ok (.invokevirtual 62, 3) := by decide +kernel
theorem l_Law_62 : ml_OK "PlainMusicLaw" 62 ⟨"PlainMusic", "breaks", "(I)I"⟩ := Or.inl gwi_1205
theorem k_PM_breaks : mt_OK m_PM_breaks 1 1 := ⟨gwi_1208, gwi_134, ⟨by decide +kernel, by decide +kernel, by decide +kernel⟩, fun h => absurd h (by decide), fun _ => ⟨gwi_1206, gwi_1207⟩, fun h => absurd h (by decide)⟩
theorem d_Law_law_458 : decode code 458 = .ok (.pop, 1) := by decide +kernel
theorem d_Law_law_459 : decode code 459 = .ok (.aload_n 2, 1) := by decide +kernel
theorem d_Law_law_460 : decode code 460 = .ok (.aload_n 0, 1) := by decide +kernel
theorem d_Law_law_461 : decode code 461 = .ok (.iload_n 3, 1) := by decide +kernel
theorem d_Law_law_462 : decode code 462 = .ok (.iconst 1, 1) := by decide +kernel
theorem d_Law_law_463 : decode code 463 = .ok (.iadd, 1) := by decide +kernel
theorem d_Law_law_464 : decode code 464 = .ok (.iaload, 1) := by decide +kernel
theorem d_Law_law_465 : decode code 465 = .ok (.invokevirtual 65, 3) := by decide +kernel
theorem l_Law_65 : ml_OK "PlainMusicLaw" 65 ⟨"PlainMusicModel", "breaks", "(I)I"⟩ := Or.inl gwi_2114
theorem k_MD_breaks : mt_OK m_MD_breaks 1 1 := ⟨gwi_2117, gwi_146, ⟨by decide +kernel, by decide +kernel, by decide +kernel⟩, fun h => absurd h (by decide), fun _ => ⟨gwi_2115, gwi_2116⟩, fun h => absurd h (by decide)⟩
theorem d_Law_law_468 : decode code 468 = .ok (.pop, 1) := by decide +kernel
theorem d_Law_law_469 : decode code 469 = .ok (.goto 275, 3) := by decide +kernel
theorem d_Law_law_472 : decode code 472 = .ok (.aload_n 1, 1) := by decide +kernel
theorem d_Law_law_473 : decode code 473 = .ok (.aload_n 0, 1) := by decide +kernel
theorem d_Law_law_474 : decode code 474 = .ok (.iload_n 3, 1) := by decide +kernel
theorem d_Law_law_475 : decode code 475 = .ok (.iconst 1, 1) := by decide +kernel
theorem d_Law_law_476 : decode code 476 = .ok (.iadd, 1) := by decide +kernel
theorem d_Law_law_477 : decode code 477 = .ok (.iaload, 1) := by decide +kernel
theorem d_Law_law_478 : decode code 478 = .ok (.invokevirtual 66, 3) := by decide +kernel
theorem l_Law_66 : ml_OK "PlainMusicLaw" 66 ⟨"PlainMusic", "line", "(I)I"⟩ := Or.inl gwi_1262
theorem k_PM_line : mt_OK m_PM_line 1 1 := ⟨gwi_1265, gwi_134, ⟨by decide +kernel, by decide +kernel, by decide +kernel⟩, fun h => absurd h (by decide), fun _ => ⟨gwi_1263, gwi_1264⟩, fun h => absurd h (by decide)⟩
theorem d_Law_law_481 : decode code 481 = .ok (.pop, 1) := by decide +kernel
theorem d_Law_law_482 : decode code 482 = .ok (.aload_n 2, 1) := by decide +kernel
theorem d_Law_law_483 : decode code 483 = .ok (.aload_n 0, 1) := by decide +kernel
theorem d_Law_law_484 : decode code 484 = .ok (.iload_n 3, 1) := by decide +kernel
theorem d_Law_law_485 : decode code 485 = .ok (.iconst 1, 1) := by decide +kernel
theorem d_Law_law_486 : decode code 486 = .ok (.iadd, 1) := by decide +kernel
theorem d_Law_law_487 : decode code 487 = .ok (.iaload, 1) := by decide +kernel
theorem d_Law_law_488 : decode code 488 = .ok (.invokevirtual 69, 3) := by decide +kernel
theorem l_Law_69 : ml_OK "PlainMusicLaw" 69 ⟨"PlainMusicModel", "line", "(I)I"⟩ := Or.inl gwi_2119
theorem k_MD_line : mt_OK m_MD_line 1 1 := ⟨gwi_2122, gwi_146, ⟨by decide +kernel, by decide +kernel, by decide +kernel⟩, fun h => absurd h (by decide), fun _ => ⟨gwi_2120, gwi_2121⟩, fun h => absurd h (by decide)⟩
theorem d_Law_law_491 : decode code 491 = .ok (.pop, 1) := by decide +kernel
theorem d_Law_law_492 : decode code 492 = .ok (.goto 252, 3) := by decide +kernel
theorem d_Law_law_495 : decode code 495 = .ok (.aload_n 1, 1) := by decide +kernel
theorem d_Law_law_496 : decode code 496 = .ok (.aload_n 0, 1) := by decide +kernel
theorem d_Law_law_497 : decode code 497 = .ok (.iload_n 3, 1) := by decide +kernel
theorem d_Law_law_498 : decode code 498 = .ok (.iconst 1, 1) := by decide +kernel
theorem d_Law_law_499 : decode code 499 = .ok (.iadd, 1) := by decide +kernel
theorem d_Law_law_500 : decode code 500 = .ok (.iaload, 1) := by decide +kernel
theorem d_Law_law_501 : decode code 501 = .ok (.invokevirtual 70, 3) := by decide +kernel
theorem l_Law_70 : ml_OK "PlainMusicLaw" 70 ⟨"PlainMusic", "width", "(I)I"⟩ := Or.inl gwi_1270
theorem k_PM_width : mt_OK m_PM_width 1 1 := ⟨gwi_1273, gwi_134, ⟨by decide +kernel, by decide +kernel, by decide +kernel⟩, fun h => absurd h (by decide), fun _ => ⟨gwi_1271, gwi_1272⟩, fun h => absurd h (by decide)⟩
theorem d_Law_law_504 : decode code 504 = .ok (.pop, 1) := by decide +kernel
theorem d_Law_law_505 : decode code 505 = .ok (.aload_n 2, 1) := by decide +kernel
theorem d_Law_law_506 : decode code 506 = .ok (.aload_n 0, 1) := by decide +kernel
theorem d_Law_law_507 : decode code 507 = .ok (.iload_n 3, 1) := by decide +kernel
theorem d_Law_law_508 : decode code 508 = .ok (.iconst 1, 1) := by decide +kernel
theorem d_Law_law_509 : decode code 509 = .ok (.iadd, 1) := by decide +kernel
theorem d_Law_law_510 : decode code 510 = .ok (.iaload, 1) := by decide +kernel
theorem d_Law_law_511 : decode code 511 = .ok (.invokevirtual 73, 3) := by decide +kernel
theorem l_Law_73 : ml_OK "PlainMusicLaw" 73 ⟨"PlainMusicModel", "width", "(I)I"⟩ := Or.inl gwi_2106
theorem d_Law_law_514 : decode code 514 = .ok (.pop, 1) := by decide +kernel
theorem d_Law_law_515 : decode code 515 = .ok (.goto 229, 3) := by decide +kernel
theorem d_Law_law_518 : decode code 518 = .ok (.aload_n 1, 1) := by decide +kernel
theorem d_Law_law_519 : decode code 519 = .ok (.aload_n 0, 1) := by decide +kernel
theorem d_Law_law_520 : decode code 520 = .ok (.iload_n 3, 1) := by decide +kernel
theorem d_Law_law_521 : decode code 521 = .ok (.iconst 1, 1) := by decide +kernel
theorem d_Law_law_522 : decode code 522 = .ok (.iadd, 1) := by decide +kernel
theorem d_Law_law_523 : decode code 523 = .ok (.iaload, 1) := by decide +kernel
theorem d_Law_law_524 : decode code 524 = .ok (.aload_n 0, 1) := by decide +kernel
theorem d_Law_law_525 : decode code 525 = .ok (.iload_n 3, 1) := by decide +kernel
theorem d_Law_law_526 : decode code 526 = .ok (.iconst 2, 1) := by decide +kernel
theorem d_Law_law_527 : decode code 527 = .ok (.iadd, 1) := by decide +kernel
theorem d_Law_law_528 : decode code 528 = .ok (.iaload, 1) := by decide +kernel
theorem d_Law_law_529 : decode code 529 = .ok (.aload_n 0, 1) := by decide +kernel
theorem d_Law_law_530 : decode code 530 = .ok (.iload_n 3, 1) := by decide +kernel
theorem d_Law_law_531 : decode code 531 = .ok (.iconst 3, 1) := by decide +kernel
theorem d_Law_law_532 : decode code 532 = .ok (.iadd, 1) := by decide +kernel
theorem d_Law_law_533 : decode code 533 = .ok (.iaload, 1) := by decide +kernel
theorem d_Law_law_534 : decode code 534 = .ok (.invokevirtual 74, 3) := by decide +kernel
theorem l_Law_74 : ml_OK "PlainMusicLaw" 74 ⟨"PlainMusic", "lines", "(III)I"⟩ := Or.inl gwi_1275
theorem k_PM_lines : mt_OK m_PM_lines 3 1 := ⟨gwi_1278, gwi_134, ⟨by decide +kernel, by decide +kernel, by decide +kernel⟩, fun h => absurd h (by decide), fun _ => ⟨gwi_1276, gwi_1277⟩, fun h => absurd h (by decide)⟩
theorem d_Law_law_537 : decode code 537 = .ok (.pop, 1) := by decide +kernel
theorem d_Law_law_538 : decode code 538 = .ok (.aload_n 2, 1) := by decide +kernel
theorem d_Law_law_539 : decode code 539 = .ok (.aload_n 0, 1) := by decide +kernel
theorem d_Law_law_540 : decode code 540 = .ok (.iload_n 3, 1) := by decide +kernel
theorem d_Law_law_541 : decode code 541 = .ok (.iconst 1, 1) := by decide +kernel
theorem d_Law_law_542 : decode code 542 = .ok (.iadd, 1) := by decide +kernel
theorem d_Law_law_543 : decode code 543 = .ok (.iaload, 1) := by decide +kernel
theorem d_Law_law_544 : decode code 544 = .ok (.aload_n 0, 1) := by decide +kernel
theorem d_Law_law_545 : decode code 545 = .ok (.iload_n 3, 1) := by decide +kernel
theorem d_Law_law_546 : decode code 546 = .ok (.iconst 2, 1) := by decide +kernel
theorem d_Law_law_547 : decode code 547 = .ok (.iadd, 1) := by decide +kernel
theorem d_Law_law_548 : decode code 548 = .ok (.iaload, 1) := by decide +kernel
theorem d_Law_law_549 : decode code 549 = .ok (.aload_n 0, 1) := by decide +kernel
theorem d_Law_law_550 : decode code 550 = .ok (.iload_n 3, 1) := by decide +kernel
theorem d_Law_law_551 : decode code 551 = .ok (.iconst 3, 1) := by decide +kernel
theorem d_Law_law_552 : decode code 552 = .ok (.iadd, 1) := by decide +kernel
theorem d_Law_law_553 : decode code 553 = .ok (.iaload, 1) := by decide +kernel
theorem d_Law_law_554 : decode code 554 = .ok (.invokevirtual 78, 3) := by decide +kernel
theorem l_Law_78 : ml_OK "PlainMusicLaw" 78 ⟨"PlainMusicModel", "lines", "(III)I"⟩ := Or.inl gwi_2123
theorem k_MD_lines : mt_OK m_MD_lines 3 1 := ⟨gwi_2126, gwi_146, ⟨by decide +kernel, by decide +kernel, by decide +kernel⟩, fun h => absurd h (by decide), fun _ => ⟨gwi_2124, gwi_2125⟩, fun h => absurd h (by decide)⟩
theorem d_Law_law_557 : decode code 557 = .ok (.pop, 1) := by decide +kernel
theorem d_Law_law_558 : decode code 558 = .ok (.goto 186, 3) := by decide +kernel
theorem d_Law_law_561 : decode code 561 = .ok (.aload_n 1, 1) := by decide +kernel
theorem d_Law_law_562 : decode code 562 = .ok (.aload_n 0, 1) := by decide +kernel
theorem d_Law_law_563 : decode code 563 = .ok (.iload_n 3, 1) := by decide +kernel
theorem d_Law_law_564 : decode code 564 = .ok (.iconst 1, 1) := by decide +kernel
theorem d_Law_law_565 : decode code 565 = .ok (.iadd, 1) := by decide +kernel
theorem d_Law_law_566 : decode code 566 = .ok (.iaload, 1) := by decide +kernel
theorem d_Law_law_567 : decode code 567 = .ok (.aload_n 0, 1) := by decide +kernel
theorem d_Law_law_568 : decode code 568 = .ok (.iload_n 3, 1) := by decide +kernel
theorem d_Law_law_569 : decode code 569 = .ok (.iconst 2, 1) := by decide +kernel
theorem d_Law_law_570 : decode code 570 = .ok (.iadd, 1) := by decide +kernel
theorem d_Law_law_571 : decode code 571 = .ok (.iaload, 1) := by decide +kernel
theorem d_Law_law_572 : decode code 572 = .ok (.invokevirtual 79, 3) := by decide +kernel
theorem l_Law_79 : ml_OK "PlainMusicLaw" 79 ⟨"PlainMusic", "second", "(II)I"⟩ := Or.inl gwi_1314
theorem k_PM_second : mt_OK m_PM_second 2 1 := ⟨gwi_1317, gwi_134, ⟨by decide +kernel, by decide +kernel, by decide +kernel⟩, fun h => absurd h (by decide), fun _ => ⟨gwi_1315, gwi_1316⟩, fun h => absurd h (by decide)⟩
theorem d_Law_law_575 : decode code 575 = .ok (.pop, 1) := by decide +kernel
theorem d_Law_law_576 : decode code 576 = .ok (.aload_n 2, 1) := by decide +kernel
theorem d_Law_law_577 : decode code 577 = .ok (.aload_n 0, 1) := by decide +kernel
theorem d_Law_law_578 : decode code 578 = .ok (.iload_n 3, 1) := by decide +kernel
theorem d_Law_law_579 : decode code 579 = .ok (.iconst 1, 1) := by decide +kernel
theorem d_Law_law_580 : decode code 580 = .ok (.iadd, 1) := by decide +kernel
theorem d_Law_law_581 : decode code 581 = .ok (.iaload, 1) := by decide +kernel
theorem d_Law_law_582 : decode code 582 = .ok (.aload_n 0, 1) := by decide +kernel
theorem d_Law_law_583 : decode code 583 = .ok (.iload_n 3, 1) := by decide +kernel
theorem d_Law_law_584 : decode code 584 = .ok (.iconst 2, 1) := by decide +kernel
theorem d_Law_law_585 : decode code 585 = .ok (.iadd, 1) := by decide +kernel
theorem d_Law_law_586 : decode code 586 = .ok (.iaload, 1) := by decide +kernel
theorem d_Law_law_587 : decode code 587 = .ok (.invokevirtual 82, 3) := by decide +kernel
theorem l_Law_82 : ml_OK "PlainMusicLaw" 82 ⟨"PlainMusicModel", "second", "(II)I"⟩ := Or.inl gwi_2144
theorem k_MD_second : mt_OK m_MD_second 2 1 := ⟨gwi_2147, gwi_146, ⟨by decide +kernel, by decide +kernel, by decide +kernel⟩, fun h => absurd h (by decide), fun _ => ⟨gwi_2145, gwi_2146⟩, fun h => absurd h (by decide)⟩
theorem d_Law_law_590 : decode code 590 = .ok (.pop, 1) := by decide +kernel
theorem d_Law_law_591 : decode code 591 = .ok (.goto 153, 3) := by decide +kernel
theorem d_Law_law_594 : decode code 594 = .ok (.aload_n 1, 1) := by decide +kernel
theorem d_Law_law_595 : decode code 595 = .ok (.invokevirtual 83, 3) := by decide +kernel
theorem l_Law_83 : ml_OK "PlainMusicLaw" 83 ⟨"PlainMusic", "readings", "()I"⟩ := Or.inl gwi_1332
theorem k_PM_readings : mt_OK m_PM_readings 0 1 := ⟨gwi_1335, gwi_134, ⟨by decide +kernel, by decide +kernel, by decide +kernel⟩, fun h => absurd h (by decide), fun _ => ⟨gwi_1333, gwi_1334⟩, fun h => absurd h (by decide)⟩
theorem d_Law_law_598 : decode code 598 = .ok (.pop, 1) := by decide +kernel
theorem d_Law_law_599 : decode code 599 = .ok (.aload_n 2, 1) := by decide +kernel
theorem d_Law_law_600 : decode code 600 = .ok (.invokevirtual 86, 3) := by decide +kernel
theorem l_Law_86 : ml_OK "PlainMusicLaw" 86 ⟨"PlainMusicModel", "readings", "()I"⟩ := Or.inl gwi_2148
theorem k_MD_readings : mt_OK m_MD_readings 0 1 := ⟨gwi_2151, gwi_146, ⟨by decide +kernel, by decide +kernel, by decide +kernel⟩, fun h => absurd h (by decide), fun _ => ⟨gwi_2149, gwi_2150⟩, fun h => absurd h (by decide)⟩
theorem d_Law_law_603 : decode code 603 = .ok (.pop, 1) := by decide +kernel
theorem d_Law_law_604 : decode code 604 = .ok (.goto 140, 3) := by decide +kernel
theorem d_Law_law_607 : decode code 607 = .ok (.aload_n 1, 1) := by decide +kernel
theorem d_Law_law_608 : decode code 608 = .ok (.aload_n 0, 1) := by decide +kernel
theorem d_Law_law_609 : decode code 609 = .ok (.iload_n 3, 1) := by decide +kernel
theorem d_Law_law_610 : decode code 610 = .ok (.iconst 1, 1) := by decide +kernel
theorem d_Law_law_611 : decode code 611 = .ok (.iadd, 1) := by decide +kernel
theorem d_Law_law_612 : decode code 612 = .ok (.iaload, 1) := by decide +kernel
theorem d_Law_law_613 : decode code 613 = .ok (.aload_n 0, 1) := by decide +kernel
theorem d_Law_law_614 : decode code 614 = .ok (.iload_n 3, 1) := by decide +kernel
theorem d_Law_law_615 : decode code 615 = .ok (.iconst 2, 1) := by decide +kernel
theorem d_Law_law_616 : decode code 616 = .ok (.iadd, 1) := by decide +kernel
theorem d_Law_law_617 : decode code 617 = .ok (.iaload, 1) := by decide +kernel
theorem d_Law_law_618 : decode code 618 = .ok (.invokevirtual 87, 3) := by decide +kernel
theorem l_Law_87 : ml_OK "PlainMusicLaw" 87 ⟨"PlainMusic", "tree", "(II)I"⟩ := Or.inl gwi_1364
theorem k_PM_tree : mt_OK m_PM_tree 2 1 := ⟨gwi_1367, gwi_134, ⟨by decide +kernel, by decide +kernel, by decide +kernel⟩, fun h => absurd h (by decide), fun _ => ⟨gwi_1365, gwi_1366⟩, fun h => absurd h (by decide)⟩
theorem d_Law_law_621 : decode code 621 = .ok (.aload_n 2, 1) := by decide +kernel
theorem d_Law_law_622 : decode code 622 = .ok (.aload_n 0, 1) := by decide +kernel
theorem d_Law_law_623 : decode code 623 = .ok (.iload_n 3, 1) := by decide +kernel
theorem d_Law_law_624 : decode code 624 = .ok (.iconst 1, 1) := by decide +kernel
theorem d_Law_law_625 : decode code 625 = .ok (.iadd, 1) := by decide +kernel
theorem d_Law_law_626 : decode code 626 = .ok (.iaload, 1) := by decide +kernel
theorem d_Law_law_627 : decode code 627 = .ok (.aload_n 0, 1) := by decide +kernel
theorem d_Law_law_628 : decode code 628 = .ok (.iload_n 3, 1) := by decide +kernel
theorem d_Law_law_629 : decode code 629 = .ok (.iconst 2, 1) := by decide +kernel
theorem d_Law_law_630 : decode code 630 = .ok (.iadd, 1) := by decide +kernel
theorem d_Law_law_631 : decode code 631 = .ok (.iaload, 1) := by decide +kernel
theorem d_Law_law_632 : decode code 632 = .ok (.invokevirtual 90, 3) := by decide +kernel
theorem l_Law_90 : ml_OK "PlainMusicLaw" 90 ⟨"PlainMusicModel", "tree", "(II)I"⟩ := Or.inl gwi_2165
theorem k_MD_tree : mt_OK m_MD_tree 2 1 := ⟨gwi_2168, gwi_146, ⟨by decide +kernel, by decide +kernel, by decide +kernel⟩, fun h => absurd h (by decide), fun _ => ⟨gwi_2166, gwi_2167⟩, fun h => absurd h (by decide)⟩
theorem d_Law_law_635 : decode code 635 = .ok (.if_icmp .eq 109, 3) := by decide +kernel
theorem d_Law_law_640 : decode code 640 = .ok (.aload_n 1, 1) := by decide +kernel
theorem d_Law_law_641 : decode code 641 = .ok (.aload_n 0, 1) := by decide +kernel
theorem d_Law_law_642 : decode code 642 = .ok (.iload_n 3, 1) := by decide +kernel
theorem d_Law_law_643 : decode code 643 = .ok (.iconst 1, 1) := by decide +kernel
theorem d_Law_law_644 : decode code 644 = .ok (.iadd, 1) := by decide +kernel
theorem d_Law_law_645 : decode code 645 = .ok (.iaload, 1) := by decide +kernel
theorem d_Law_law_646 : decode code 646 = .ok (.aload_n 0, 1) := by decide +kernel
theorem d_Law_law_647 : decode code 647 = .ok (.iload_n 3, 1) := by decide +kernel
theorem d_Law_law_648 : decode code 648 = .ok (.iconst 2, 1) := by decide +kernel
theorem d_Law_law_649 : decode code 649 = .ok (.iadd, 1) := by decide +kernel
theorem d_Law_law_650 : decode code 650 = .ok (.iaload, 1) := by decide +kernel
theorem d_Law_law_651 : decode code 651 = .ok (.invokevirtual 91, 3) := by decide +kernel
theorem l_Law_91 : ml_OK "PlainMusicLaw" 91 ⟨"PlainMusic", "beside", "(II)I"⟩ := Or.inl gwi_1385
theorem k_PM_beside : mt_OK m_PM_beside 2 1 := ⟨gwi_1388, gwi_134, ⟨by decide +kernel, by decide +kernel, by decide +kernel⟩, fun h => absurd h (by decide), fun _ => ⟨gwi_1386, gwi_1387⟩, fun h => absurd h (by decide)⟩
theorem d_Law_law_654 : decode code 654 = .ok (.pop, 1) := by decide +kernel
theorem d_Law_law_655 : decode code 655 = .ok (.aload_n 2, 1) := by decide +kernel
theorem d_Law_law_656 : decode code 656 = .ok (.aload_n 0, 1) := by decide +kernel
theorem d_Law_law_657 : decode code 657 = .ok (.iload_n 3, 1) := by decide +kernel
theorem d_Law_law_658 : decode code 658 = .ok (.iconst 1, 1) := by decide +kernel
theorem d_Law_law_659 : decode code 659 = .ok (.iadd, 1) := by decide +kernel
theorem d_Law_law_660 : decode code 660 = .ok (.iaload, 1) := by decide +kernel
theorem d_Law_law_661 : decode code 661 = .ok (.aload_n 0, 1) := by decide +kernel
theorem d_Law_law_662 : decode code 662 = .ok (.iload_n 3, 1) := by decide +kernel
theorem d_Law_law_663 : decode code 663 = .ok (.iconst 2, 1) := by decide +kernel
theorem d_Law_law_664 : decode code 664 = .ok (.iadd, 1) := by decide +kernel
theorem d_Law_law_665 : decode code 665 = .ok (.iaload, 1) := by decide +kernel
theorem d_Law_law_666 : decode code 666 = .ok (.invokevirtual 94, 3) := by decide +kernel
theorem l_Law_94 : ml_OK "PlainMusicLaw" 94 ⟨"PlainMusicModel", "beside", "(II)I"⟩ := Or.inl gwi_2169
theorem k_MD_beside : mt_OK m_MD_beside 2 1 := ⟨gwi_2172, gwi_146, ⟨by decide +kernel, by decide +kernel, by decide +kernel⟩, fun h => absurd h (by decide), fun _ => ⟨gwi_2170, gwi_2171⟩, fun h => absurd h (by decide)⟩
theorem d_Law_law_669 : decode code 669 = .ok (.pop, 1) := by decide +kernel
theorem d_Law_law_670 : decode code 670 = .ok (.goto 74, 3) := by decide +kernel
theorem d_Law_law_673 : decode code 673 = .ok (.aload_n 1, 1) := by decide +kernel
theorem d_Law_law_674 : decode code 674 = .ok (.aload_n 0, 1) := by decide +kernel
theorem d_Law_law_675 : decode code 675 = .ok (.iload_n 3, 1) := by decide +kernel
theorem d_Law_law_676 : decode code 676 = .ok (.iconst 1, 1) := by decide +kernel
theorem d_Law_law_677 : decode code 677 = .ok (.iadd, 1) := by decide +kernel
theorem d_Law_law_678 : decode code 678 = .ok (.iaload, 1) := by decide +kernel
theorem d_Law_law_679 : decode code 679 = .ok (.invokevirtual 95, 3) := by decide +kernel
theorem l_Law_95 : ml_OK "PlainMusicLaw" 95 ⟨"PlainMusic", "partner", "(I)I"⟩ := Or.inl gwi_1429
theorem k_PM_partner : mt_OK m_PM_partner 1 1 := ⟨gwi_1432, gwi_134, ⟨by decide +kernel, by decide +kernel, by decide +kernel⟩, fun h => absurd h (by decide), fun _ => ⟨gwi_1430, gwi_1431⟩, fun h => absurd h (by decide)⟩
theorem d_Law_law_682 : decode code 682 = .ok (.pop, 1) := by decide +kernel
theorem d_Law_law_683 : decode code 683 = .ok (.aload_n 2, 1) := by decide +kernel
theorem d_Law_law_684 : decode code 684 = .ok (.aload_n 0, 1) := by decide +kernel
theorem d_Law_law_685 : decode code 685 = .ok (.iload_n 3, 1) := by decide +kernel
theorem d_Law_law_686 : decode code 686 = .ok (.iconst 1, 1) := by decide +kernel
theorem d_Law_law_687 : decode code 687 = .ok (.iadd, 1) := by decide +kernel
theorem d_Law_law_688 : decode code 688 = .ok (.iaload, 1) := by decide +kernel
theorem d_Law_law_689 : decode code 689 = .ok (.invokevirtual 98, 3) := by decide +kernel
theorem l_Law_98 : ml_OK "PlainMusicLaw" 98 ⟨"PlainMusicModel", "partner", "(I)I"⟩ := Or.inl gwi_2187
theorem k_MD_partner : mt_OK m_MD_partner 1 1 := ⟨gwi_2190, gwi_146, ⟨by decide +kernel, by decide +kernel, by decide +kernel⟩, fun h => absurd h (by decide), fun _ => ⟨gwi_2188, gwi_2189⟩, fun h => absurd h (by decide)⟩
theorem d_Law_law_692 : decode code 692 = .ok (.pop, 1) := by decide +kernel
theorem d_Law_law_693 : decode code 693 = .ok (.goto 51, 3) := by decide +kernel
theorem d_Law_law_696 : decode code 696 = .ok (.aload_n 1, 1) := by decide +kernel
theorem d_Law_law_697 : decode code 697 = .ok (.invokevirtual 99, 3) := by decide +kernel
theorem l_Law_99 : ml_OK "PlainMusicLaw" 99 ⟨"PlainMusic", "ways", "()I"⟩ := Or.inl gwi_1437
theorem k_PM_ways : mt_OK m_PM_ways 0 1 := ⟨gwi_1440, gwi_134, ⟨by decide +kernel, by decide +kernel, by decide +kernel⟩, fun h => absurd h (by decide), fun _ => ⟨gwi_1438, gwi_1439⟩, fun h => absurd h (by decide)⟩
theorem d_Law_law_700 : decode code 700 = .ok (.pop, 1) := by decide +kernel
theorem d_Law_law_701 : decode code 701 = .ok (.aload_n 2, 1) := by decide +kernel
theorem d_Law_law_702 : decode code 702 = .ok (.invokevirtual 102, 3) := by decide +kernel
theorem l_Law_102 : ml_OK "PlainMusicLaw" 102 ⟨"PlainMusicModel", "ways", "()I"⟩ := Or.inl gwi_2191
theorem k_MD_ways : mt_OK m_MD_ways 0 1 := ⟨gwi_2194, gwi_146, ⟨by decide +kernel, by decide +kernel, by decide +kernel⟩, fun h => absurd h (by decide), fun _ => ⟨gwi_2192, gwi_2193⟩, fun h => absurd h (by decide)⟩
theorem d_Law_law_705 : decode code 705 = .ok (.pop, 1) := by decide +kernel
theorem d_Law_law_706 : decode code 706 = .ok (.goto 38, 3) := by decide +kernel
theorem d_Law_law_709 : decode code 709 = .ok (.aload_n 1, 1) := by decide +kernel
theorem d_Law_law_710 : decode code 710 = .ok (.aload_n 0, 1) := by decide +kernel
theorem d_Law_law_711 : decode code 711 = .ok (.iload_n 3, 1) := by decide +kernel
theorem d_Law_law_712 : decode code 712 = .ok (.iconst 1, 1) := by decide +kernel
theorem d_Law_law_713 : decode code 713 = .ok (.iadd, 1) := by decide +kernel
theorem d_Law_law_714 : decode code 714 = .ok (.iaload, 1) := by decide +kernel
theorem d_Law_law_715 : decode code 715 = .ok (.aload_n 0, 1) := by decide +kernel
theorem d_Law_law_716 : decode code 716 = .ok (.iload_n 3, 1) := by decide +kernel
theorem d_Law_law_717 : decode code 717 = .ok (.iconst 2, 1) := by decide +kernel
theorem d_Law_law_718 : decode code 718 = .ok (.iadd, 1) := by decide +kernel
theorem d_Law_law_719 : decode code 719 = .ok (.iaload, 1) := by decide +kernel
theorem d_Law_law_720 : decode code 720 = .ok (.invokevirtual 103, 3) := by decide +kernel
theorem l_Law_103 : ml_OK "PlainMusicLaw" 103 ⟨"PlainMusic", "sample", "(II)D"⟩ := Or.inl gwi_1441
theorem k_PM_sample : mt_OK m_PM_sample 2 1 := ⟨gwi_1444, gwi_134, ⟨by decide +kernel, by decide +kernel, by decide +kernel⟩, fun h => absurd h (by decide), fun _ => ⟨gwi_1442, gwi_1443⟩, fun h => absurd h (by decide)⟩
theorem d_Law_law_723 : decode code 723 = .ok (.dstore 4, 2) := by decide +kernel
theorem d_Law_law_725 : decode code 725 = .ok (.aload_n 2, 1) := by decide +kernel
theorem d_Law_law_726 : decode code 726 = .ok (.aload_n 0, 1) := by decide +kernel
theorem d_Law_law_727 : decode code 727 = .ok (.iload_n 3, 1) := by decide +kernel
theorem d_Law_law_728 : decode code 728 = .ok (.iconst 1, 1) := by decide +kernel
theorem d_Law_law_729 : decode code 729 = .ok (.iadd, 1) := by decide +kernel
theorem d_Law_law_730 : decode code 730 = .ok (.iaload, 1) := by decide +kernel
theorem d_Law_law_731 : decode code 731 = .ok (.aload_n 0, 1) := by decide +kernel
theorem d_Law_law_732 : decode code 732 = .ok (.iload_n 3, 1) := by decide +kernel
theorem d_Law_law_733 : decode code 733 = .ok (.iconst 2, 1) := by decide +kernel
theorem d_Law_law_734 : decode code 734 = .ok (.iadd, 1) := by decide +kernel
theorem d_Law_law_735 : decode code 735 = .ok (.iaload, 1) := by decide +kernel
theorem d_Law_law_736 : decode code 736 = .ok (.invokevirtual 107, 3) := by decide +kernel
theorem l_Law_107 : ml_OK "PlainMusicLaw" 107 ⟨"PlainMusicModel", "sample", "(II)D"⟩ := Or.inl gwi_2195
theorem k_MD_sample : mt_OK m_MD_sample 2 1 := ⟨gwi_2198, gwi_146, ⟨by decide +kernel, by decide +kernel, by decide +kernel⟩, fun h => absurd h (by decide), fun _ => ⟨gwi_2196, gwi_2197⟩, fun h => absurd h (by decide)⟩
theorem d_Law_law_739 : decode code 739 = .ok (.dstore 6, 2) := by decide +kernel
theorem d_Law_law_741 : decode code 741 = .ok (.goto 3, 3) := by decide +kernel

