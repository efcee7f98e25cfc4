/-! ===== the class: a voice's sounds and parts, cell by cell ===== -/
theorem isV_24 {v : Nat} (h : isV v) : 24 ≤ v := by unfold isV at h; omega
/-- what reading a voice's parts writes -/
abbrev WP (v : Nat) : Nat → Nat → Prop := fun a k => WT a k ∨ (a = 2 ∧ k = 4) ∨ (9 ≤ a ∧ a ≤ 15) ∨ (v ≤ a ∧ a ≤ v + 6)
theorem WT_P {v : Nat} : ∀ a k, WT a k → WP v a k := fun _ _ q => Or.inl q
theorem t_Voice_clear {G : cx_T} {s v : Nat} {h : ah_T} (hv : isV v) (hb0 : hb s h) : con G 0 0 0 m_Voice_clear [av_R (some v)] h (fun r h' => r = none ∧ hb s h' ∧ fr (fun a k => (a = v ∧ (k = 2 ∨ k = 7)) ∨ (a = v + 3 ∧ k = 0)) h h' ∧ h'.2.1 v 2 = 0 ∧ h'.2.1 v 7 = 0 ∧ h'.2.1 (v + 3) 0 = 0) := by
  have v24 := isV_24 hv
  refine c_Voice_clear hv hb0 ?_
  unfold B_Voice_clear_0
  intro h1 e1 h3 e3 h6 e6
  refine ⟨rfl, hb_i (hb_i (hb_i hb0 e1) e3) e6, fr_i (fr_i (fr_i fr_0 e1 (by omega)) e3 (by omega)) e6 (by omega), ?_, ?_, mv_i e6⟩
  · rw [mm_i e6 (by omega), mm_i e3 (by omega), mv_i e1]
  · rw [mm_i e6 (by omega), mv_i e3]
theorem t_Voice_addPitch {G : cx_T} {s v n : Nat} {h : ah_T} {a b : Int} (hv : isV v) (hb0 : hb s h) (hn : h.2.1 v 2 = (n : Int)) : con G 0 0 0 m_Voice_addPitch [av_R (some v), av_I a, av_I b] h (fun r h' => r = none ∧ hb s h' ∧ fr (fun x k => (x = v ∧ k = 2) ∨ (x = v + 1 ∧ k = n) ∨ (x = v + 2 ∧ k = n)) h h' ∧ (n < 300 → h'.2.1 v 2 = (n : Int) + 1 ∧ h'.2.1 (v + 1) n = a ∧ h'.2.1 (v + 2) n = b)) := by
  have v24 := isV_24 hv
  refine c_Voice_addPitch hv hb0 (fun _ _ => ?_)
  unfold B_Voice_addPitch_0 B_Voice_addPitch_42
  intro x1 e1 _ _
  obtain rfl : x1 = (n : Int) := e1.trans hn
  refine ⟨fun c => ⟨rfl, hb0, fr_0, fun d => by omega⟩, fun c => ⟨⟨by omega, by omega⟩, ?_⟩⟩
  rw [tn_c]
  intro h6 e6 h10 e10
  refine ⟨⟨by omega, by omega⟩, fun h14 e14 => ?_⟩
  refine ⟨rfl, hb_i (hb_i (hb_i hb0 e6) e10) e14, fr_i (fr_i (fr_i fr_0 e6 (by omega)) e10 (by omega)) e14 (by omega), fun _ => ⟨mv_i e14, ?_, ?_⟩⟩
  · rw [mm_i e14 (by omega), mm_i e10 (by omega), mv_i e6]
  · rw [mm_i e14 (by omega), mv_i e10]
theorem t_Voice_endSound {G : cx_T} {s v n : Nat} {h : ah_T} {a b c : Int} (hv : isV v) (hb0 : hb s h) (hn : h.2.1 v 7 = (n : Int)) (hn3 : n < 300) (hc : c = 0 ∨ c = 1) : con G 0 0 0 m_Voice_endSound [av_R (some v), av_I a, av_I b, av_I c] h (fun r h' => r = some (av_I (n : Int)) ∧ hb s h' ∧ fr (fun x k => (x = v ∧ k = 7) ∨ (x = v + 3 ∧ k = n + 1) ∨ ((x = v + 4 ∨ x = v + 5 ∨ x = v + 6) ∧ k = n)) h h' ∧ h'.2.1 v 7 = (n : Int) + 1 ∧ h'.2.1 (v + 4) n = a ∧ h'.2.1 (v + 5) n = b ∧ h'.2.1 (v + 6) n = c ∧ h'.2.1 (v + 3) (n + 1) = h.2.1 v 2) := by
  have v24 := isV_24 hv
  refine c_Voice_endSound hv hb0 (fun _ _ _ => ?_)
  unfold B_Voice_endSound_0
  intro x1 e1 _ _
  obtain rfl : x1 = (n : Int) := e1.trans hn
  refine ⟨fun _ => ⟨⟨by omega, by omega⟩, ?_⟩, fun d => by omega⟩
  have en : ((n : Int) + 1).toNat = n + 1 := by omega
  rw [tn_c, en]
  intro h6 e6 h10 e10
  refine ⟨hc, fun h14 e14 => ⟨⟨by omega, by omega⟩, fun h18 e18 x22 e22 _ _ => ⟨⟨by omega, by omega⟩, fun h24 e24 => ⟨⟨by omega, by omega⟩, ?_⟩⟩⟩⟩
  refine ⟨rfl, hb_i (hb_i (hb_i (hb_i (hb_i hb0 e6) e10) e14) e18) e24, fr_i (fr_i (fr_i (fr_i (fr_i fr_0 e6 (by omega)) e10 (by omega)) e14 (by omega)) e18 (by omega)) e24 (by omega), ?_, ?_, ?_, ?_, ?_⟩
  · rw [mm_i e24 (by omega), mv_i e18]
  · rw [mm_i e24 (by omega), mm_i e18 (by omega), mm_i e14 (by omega), mm_i e10 (by omega), mv_i e6]
  · rw [mm_i e24 (by omega), mm_i e18 (by omega), mm_i e14 (by omega), mv_i e10]
  · rw [mm_i e24 (by omega), mm_i e18 (by omega), mv_i e14]
  · rw [mv_i e24, e22, mm_i e18 (by omega), mm_i e14 (by omega), mm_i e10 (by omega), mm_i e6 (by omega)]
theorem t_Parts_clear {G : cx_T} {s : Nat} {h : ah_T} (hb0 : hb s h) : con G 0 0 0 m_Parts_clear [av_R (some 9)] h (fun r h' => r = none ∧ hb s h' ∧ fr (fun a k => a = 9 ∧ (k = 4 ∨ k = 7)) h h' ∧ h'.2.1 9 4 = 0 ∧ h'.2.1 9 7 = 0) := by
  refine c_Parts_clear hb0 ?_
  unfold B_Parts_clear_0
  intro h1 e1 h3 e3
  exact ⟨rfl, hb_i (hb_i hb0 e1) e3, fr_i (fr_i fr_0 e1 (by omega)) e3 (by omega), by rw [mm_i e3 (by omega), mv_i e1], mv_i e3⟩
/-- a part that is no [ and no { -/
theorem t_Parts_add {G : cx_T} {s n : Nat} {h : ah_T} {a b c : Int} (hb0 : hb s h) (hn : h.2.1 9 4 = (n : Int)) (hn2 : n < 2000) (h91 : a ≠ 91) (h123 : a ≠ 123) : con G 0 0 0 m_Parts_add [av_R (some 9), av_I a, av_I b, av_I c] h (fun r h' => r = none ∧ hb s h' ∧ fr (fun x k => (x = 9 ∧ k = 4) ∨ ((x = 10 ∨ x = 11 ∨ x = 12 ∨ x = 13) ∧ k = n)) h h' ∧ h'.2.1 9 4 = (n : Int) + 1 ∧ h'.2.1 10 n = a ∧ h'.2.1 12 n = b ∧ h'.2.1 13 n = c ∧ h'.2.1 11 n = (n : Int)) := by
  refine c_Parts_add hb0 (fun _ _ _ => ?_)
  unfold B_Parts_add_0 B_Parts_add_70
  intro x1 e1 _ _
  refine ⟨fun _ => ⟨fun d => absurd d h91, fun _ => ⟨fun d => absurd d h123, fun _ x2 e2 _ _ => ?_⟩⟩, fun d => by omega⟩
  obtain rfl : x2 = (n : Int) := e2.trans hn
  refine ⟨⟨by omega, by omega⟩, ?_⟩
  rw [tn_c]
  intro h4 e4 h8 e8 h12 e12 h17 e17
  refine ⟨⟨by omega, by omega⟩, fun h21 e21 => ?_⟩
  refine ⟨rfl, hb_i (hb_i (hb_i (hb_i (hb_i hb0 e4) e8) e12) e17) e21, fr_i (fr_i (fr_i (fr_i (fr_i fr_0 e4 (by omega)) e8 (by omega)) e12 (by omega)) e17 (by omega)) e21 (by omega), mv_i e21, ?_, ?_, ?_, ?_⟩
  · rw [mm_i e21 (by omega), mm_i e17 (by omega), mm_i e12 (by omega), mm_i e8 (by omega), mv_i e4]
  · rw [mm_i e21 (by omega), mm_i e17 (by omega), mm_i e12 (by omega), mv_i e8]
  · rw [mm_i e21 (by omega), mm_i e17 (by omega), mv_i e12]
  · rw [mm_i e21 (by omega), mv_i e17]
/-- a [ or { -/
theorem t_Parts_open {G : cx_T} {s n d : Nat} {h : ah_T} {a b c : Int} (hb0 : hb s h) (hn : h.2.1 9 4 = (n : Int)) (hn2 : n < 2000) (hd : h.2.1 9 7 = (d : Int)) (hd7 : d < 7) (ha : a = 91 ∨ a = 123) : con G 0 0 0 m_Parts_add [av_R (some 9), av_I a, av_I b, av_I c] h (fun r h' => r = none ∧ hb s h' ∧ fr (fun x k => (x = 9 ∧ (k = 4 ∨ k = 7)) ∨ ((x = 10 ∨ x = 11 ∨ x = 12 ∨ x = 13) ∧ k = n) ∨ ((x = 14 ∨ x = 15) ∧ k = d)) h h' ∧ h'.2.1 9 4 = (n : Int) + 1 ∧ h'.2.1 10 n = a ∧ h'.2.1 12 n = b ∧ h'.2.1 13 n = c ∧ h'.2.1 11 n = (n : Int) ∧ h'.2.1 9 7 = (d : Int) + 1 ∧ h'.2.1 14 d = (n : Int) ∧ h'.2.1 15 d = (n : Int)) := by
  refine c_Parts_add hb0 (fun _ _ _ => ?_)
  unfold B_Parts_add_0
  intro x1 e1 _ _
  have key : B_Parts_add_25 G s a b c h (fun r h' => r = none ∧ hb s h' ∧ fr (fun x k => (x = 9 ∧ (k = 4 ∨ k = 7)) ∨ ((x = 10 ∨ x = 11 ∨ x = 12 ∨ x = 13) ∧ k = n) ∨ ((x = 14 ∨ x = 15) ∧ k = d)) h h' ∧ h'.2.1 9 4 = (n : Int) + 1 ∧ h'.2.1 10 n = a ∧ h'.2.1 12 n = b ∧ h'.2.1 13 n = c ∧ h'.2.1 11 n = (n : Int) ∧ h'.2.1 9 7 = (d : Int) + 1 ∧ h'.2.1 14 d = (n : Int) ∧ h'.2.1 15 d = (n : Int)) := by
    unfold B_Parts_add_25 B_Parts_add_70
    intro y1 f1 _ _
    obtain rfl : y1 = (d : Int) := f1.trans hd
    refine ⟨fun w => by omega, fun _ x4 e4 _ _ => ?_⟩
    obtain rfl : x4 = (n : Int) := e4.trans hn
    refine ⟨⟨by omega, by omega⟩, ?_⟩
    rw [tn_c d]
    intro h6 e6 h11 e11
    refine ⟨⟨by omega, by omega⟩, fun h15 e15 x2 e2 _ _ => ?_⟩
    have e2' : x2 = (n : Int) := by rw [e2, mm_i e15 (by omega), mm_i e11 (by omega), mm_i e6 (by omega), hn]
    subst e2'
    refine ⟨⟨by omega, by omega⟩, ?_⟩
    rw [tn_c]
    intro g4 d4 g8 d8 g12 d12 g17 d17
    refine ⟨⟨by omega, by omega⟩, fun g21 d21 => ?_⟩
    refine ⟨rfl, hb_i (hb_i (hb_i (hb_i (hb_i (hb_i (hb_i (hb_i hb0 e6) e11) e15) d4) d8) d12) d17) d21, fr_i (fr_i (fr_i (fr_i (fr_i (fr_i (fr_i (fr_i fr_0 e6 (by omega)) e11 (by omega)) e15 (by omega)) d4 (by omega)) d8 (by omega)) d12 (by omega)) d17 (by omega)) d21 (by omega), mv_i d21, ?_, ?_, ?_, ?_, ?_, ?_, ?_⟩
    · rw [mm_i d21 (by omega), mm_i d17 (by omega), mm_i d12 (by omega), mm_i d8 (by omega), mv_i d4]
    · rw [mm_i d21 (by omega), mm_i d17 (by omega), mm_i d12 (by omega), mv_i d8]
    · rw [mm_i d21 (by omega), mm_i d17 (by omega), mv_i d12]
    · rw [mm_i d21 (by omega), mv_i d17]
    · rw [mm_i d21 (by omega), mm_i d17 (by omega), mm_i d12 (by omega), mm_i d8 (by omega), mm_i d4 (by omega), mv_i e15]
    · rw [mm_i d21 (by omega), mm_i d17 (by omega), mm_i d12 (by omega), mm_i d8 (by omega), mm_i d4 (by omega), mm_i e15 (by omega), mm_i e11 (by omega), mv_i e6]
    · rw [mm_i d21 (by omega), mm_i d17 (by omega), mm_i d12 (by omega), mm_i d8 (by omega), mm_i d4 (by omega), mm_i e15 (by omega), mv_i e11]
  exact ⟨fun _ => ⟨fun _ => key, fun w => ⟨fun _ => key, fun w2 => by omega⟩⟩, fun w => by omega⟩
/-- a : or ] of the innermost [, a } of the innermost { -/
theorem t_Parts_addMark {G : cx_T} {s n d o l : Nat} {h : ah_T} {K : Int} (hb0 : hb s h) (hn : h.2.1 9 4 = (n : Int)) (hn2 : n < 2000) (hd : h.2.1 9 7 = (d : Int)) (hd7 : d ≤ 7) (hK : K = 58 ∨ K = 93 ∨ K = 125) (ho : 0 < d → h.2.1 14 (d - 1) = (o : Int) ∧ h.2.1 15 (d - 1) = (l : Int) ∧ o < n ∧ l < n) :
    con G 1 0 0 m_Parts_addMark [av_R (some 9), av_I K] h (fun r h' => hb s h' ∧ ((r = some (av_I 0) ∧ h' = h ∧ ¬ (0 < d ∧ h.2.1 10 o = (if K = 125 then 123 else 91))) ∨ (r = some (av_I 1) ∧ (0 < d ∧ h.2.1 10 o = (if K = 125 then 123 else 91)) ∧ fr (fun x k => (x = 9 ∧ (k = 4 ∨ k = 7)) ∨ ((x = 10 ∨ x = 11 ∨ x = 12 ∨ x = 13) ∧ k = n) ∨ (x = 11 ∧ k = l) ∨ (x = 15 ∧ k = d - 1)) h h' ∧ h'.2.1 9 4 = (n : Int) + 1 ∧ h'.2.1 10 n = K ∧ h'.2.1 11 n = (n : Int) ∧ h'.2.1 11 l = (n : Int) ∧ h'.2.1 15 (d - 1) = (n : Int) ∧ h'.2.1 9 7 = (if K = 58 then (d : Int) else (d : Int) - 1)))) := by
  refine c_Parts_addMark hb0 (fun _ => ?_)
  unfold B_Parts_addMark_0 B_Parts_addMark_29
  intro x1 e1 _ _
  obtain rfl : x1 = (d : Int) := e1.trans hd
  refine ⟨fun w => ⟨hb0, Or.inl ⟨rfl, rfl, fun q => by omega⟩⟩, fun w => ⟨fun w2 => by omega, fun _ x3 e3 _ _ => ⟨fun _ => ⟨⟨by omega, by omega⟩, ⟨by omega, by omega⟩, fun x9 e9 _ _ => ?_⟩, fun w2 => by omega⟩⟩⟩
  have ed : ((d : Int) - 1).toNat = d - 1 := by omega
  obtain ⟨ho1, ho2, ho3, ho4⟩ := ho (by omega)
  have e9' : x9 = (o : Int) := by rw [e9, ed, ho1]
  subst e9'
  refine ⟨⟨by omega, by omega⟩, ?_⟩
  rw [tn_c]
  intro x11 e11 _ _
  have key : ∀ t1, t1 = (if K = 125 then 123 else 91) → B_Parts_addMark_62 G s K ((d : Int) - 1) x11 t1 h (fun r h' => hb s h' ∧ ((r = some (av_I 0) ∧ h' = h ∧ ¬ (0 < d ∧ h.2.1 10 o = (if K = 125 then 123 else 91))) ∨ (r = some (av_I 1) ∧ (0 < d ∧ h.2.1 10 o = (if K = 125 then 123 else 91)) ∧ fr (fun x k => (x = 9 ∧ (k = 4 ∨ k = 7)) ∨ ((x = 10 ∨ x = 11 ∨ x = 12 ∨ x = 13) ∧ k = n) ∨ (x = 11 ∧ k = l) ∨ (x = 15 ∧ k = d - 1)) h h' ∧ h'.2.1 9 4 = (n : Int) + 1 ∧ h'.2.1 10 n = K ∧ h'.2.1 11 n = (n : Int) ∧ h'.2.1 11 l = (n : Int) ∧ h'.2.1 15 (d - 1) = (n : Int) ∧ h'.2.1 9 7 = (if K = 58 then (d : Int) else (d : Int) - 1)))) := by
    intro t1 et
    unfold B_Parts_addMark_62
    refine ⟨fun c => ⟨⟨by omega, by omega⟩, ?_⟩, fun c => ⟨hb0, Or.inl ⟨rfl, rfl, fun q => c (by rw [e11, et]; exact q.2)⟩⟩⟩
    rw [ed]
    intro y3 f3 _ _ y5 f5 _ _
    have f3' : y3 = (l : Int) := f3.trans ho2
    have f5' : y5 = (n : Int) := f5.trans hn
    subst f3' f5'
    refine ⟨⟨by omega, by omega⟩, ?_⟩
    rw [tn_c]
    intro h7 e7 h11 g11
    have hb11 := hb_i (hb_i hb0 e7) g11
    have q : ∀ x k, ¬ (x = 11 ∧ k = l) → ¬ (x = 15 ∧ k = d - 1) → h11.2.1 x k = h.2.1 x k := fun x k q1 q2 => (mm_i g11 q2).trans (mm_i e7 q1)
    refine con_mono (t_Parts_add hb11 (n := n) ((q _ _ (by omega) (by omega)).trans hn) hn2 (by omega) (by omega)) ?_
    rintro r h13 ⟨rfl, hb13, f13, a1, a2, a3, a4, a5⟩
    have fx := fr_t (W := fun x k => (x = 9 ∧ (k = 4 ∨ k = 7)) ∨ ((x = 10 ∨ x = 11 ∨ x = 12 ∨ x = 13) ∧ k = n) ∨ (x = 11 ∧ k = l) ∨ (x = 15 ∧ k = d - 1)) (fr_i (fr_i fr_0 e7 (by omega)) g11 (by omega)) f13 (fun x k w => by omega)
    have cc : 0 < d ∧ h.2.1 10 o = (if K = 125 then 123 else 91) := ⟨by omega, by rw [← e11, c, et]⟩
    have l11 : h13.2.1 11 l = (n : Int) := by rw [fr_g f13 (by omega), mm_i g11 (by omega), mv_i e7]
    have m15 : h13.2.1 15 (d - 1) = (n : Int) := by rw [fr_g f13 (by omega), mv_i g11]
    have d13 : h13.2.1 9 7 = (d : Int) := by rw [fr_g f13 (by omega), q _ _ (by omega) (by omega), hd]
    refine ⟨rfl, hb13, fun c5 => ?_, fun c5 x16 e16 _ _ => ⟨⟨by omega, by omega⟩, fun h18 e18 => ?_⟩⟩
    · unfold B_Parts_addMark_115
      exact ⟨hb13, Or.inr ⟨rfl, cc, fx, a1, a2, a5, l11, m15, by rw [if_pos c5]; exact d13⟩⟩
    · unfold B_Parts_addMark_115
      refine ⟨hb_i hb13 e18, Or.inr ⟨rfl, cc, fr_i fx e18 (by omega), ?_, ?_, ?_, ?_, ?_, ?_⟩⟩
      · rw [mm_i e18 (by omega), a1]
      · rw [mm_i e18 (by omega), a2]
      · rw [mm_i e18 (by omega), a5]
      · rw [mm_i e18 (by omega), l11]
      · rw [mm_i e18 (by omega), m15]
      · rw [mv_i e18, e16, d13, if_neg c5]
  exact ⟨fun c => key 123 (by rw [if_pos c]), fun c => key 91 (by rw [if_neg c])⟩
