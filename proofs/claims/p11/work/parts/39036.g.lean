/-! ===== the WALK, class: an event met ===== -/
def lT_ (π : pm_T) (j : Nat) (sT sB : Int) : Int := rdT (lnT π j sT) (lnB π j sB)
def lB_ (π : pm_T) (j : Nat) (sT sB : Int) : Int := rdB (lnT π j sT) (lnB π j sB)
theorem wk_ev_n {π α : pm_T} {j : Nat} {sT sB : Int} (h : ¬ (α 0 3 = 0 ∧ α 0 1 < 300)) : wk_ev π j sT sB α = up2 α 0 1 (α 0 1 + 1) := by unfold wk_ev; rw [if_neg h]
theorem wk_ev_f {π α : pm_T} {j : Nat} {sT sB : Int} (h : α 0 3 = 0 ∧ α 0 1 < 300) (hf : isFr (lT_ π j sT sB) (lB_ π j sT sB) = true) : wk_ev π j sT sB α 0 3 = 1 ∧ wk_ev π j sT sB α 0 1 = α 0 1 + 1 ∧ wk_ev π j sT sB α 0 2 = α 0 2 := by
  unfold lT_ lB_ at hf
  unfold wk_ev
  rw [if_pos h]
  dsimp only
  rw [if_pos hf]
  refine ⟨by rw [up2_at], ?_, ?_⟩
  · rw [up2_o (by omega), up2_o (by omega), up2_o (by omega), up2_o (by omega), up2_o (by omega), up2_o (by omega), up2_o (by omega), up2_at]
  · rw [up2_o (by omega), up2_o (by omega), up2_o (by omega), up2_o (by omega), up2_o (by omega), up2_o (by omega), up2_o (by omega), up2_o (by omega)]
theorem wk_ev_y {π α : pm_T} {j e : Nat} {sT sB : Int} (h : α 0 3 = 0 ∧ α 0 1 < 300) (he : α 0 1 = (e : Int)) (hf : ¬ isFr (lT_ π j sT sB) (lB_ π j sT sB) = true) :
    (∀ a k, ¬ (a = 0 ∧ (k = 1 ∨ k = 3 ∨ k = 4 ∨ k = 5)) → (k ≠ e ∨ a = 0 ∨ 7 ≤ a) → wk_ev π j sT sB α a k = α a k) ∧ wk_ev π j sT sB α 0 1 = α 0 1 + 1 ∧
    (wk_ev π j sT sB α 1 e = j ∧ wk_ev π j sT sB α 2 e = α 0 2 ∧ wk_ev π j sT sB α 3 e = α 0 4 ∧ wk_ev π j sT sB α 4 e = α 0 5 ∧ wk_ev π j sT sB α 5 e = lT_ π j sT sB ∧ wk_ev π j sT sB α 6 e = lB_ π j sT sB) ∧
    wk_ev π j sT sB α 0 4 = rdT (α 0 4 * lB_ π j sT sB + lT_ π j sT sB * α 0 5) (α 0 5 * lB_ π j sT sB) ∧ wk_ev π j sT sB α 0 5 = rdB (α 0 4 * lB_ π j sT sB + lT_ π j sT sB * α 0 5) (α 0 5 * lB_ π j sT sB) ∧
    wk_ev π j sT sB α 0 3 = (if isFr (rdT (α 0 4 * lB_ π j sT sB + lT_ π j sT sB * α 0 5) (α 0 5 * lB_ π j sT sB)) (rdB (α 0 4 * lB_ π j sT sB + lT_ π j sT sB * α 0 5) (α 0 5 * lB_ π j sT sB)) = true then 1 else 0) := by
  unfold lT_ lB_ at hf ⊢
  unfold wk_ev
  rw [if_pos h]
  dsimp only
  rw [if_neg hf]
  have ee : (α 0 1).toNat = e := by omega
  rw [ee]
  refine ⟨fun a k q q2 => ?_, ?_, ⟨?_, ?_, ?_, ?_, ?_, ?_⟩, ?_, ?_, by rw [up2_at]⟩
  · rw [up2_o (by omega), up2_o (by omega), up2_o (by omega), up2_o (by omega), up2_o (by omega), up2_o (by omega), up2_o (by omega), up2_o (by omega), up2_o (by omega), up2_o (by omega)]
  · rw [up2_o (by omega), up2_o (by omega), up2_o (by omega), up2_o (by omega), up2_o (by omega), up2_o (by omega), up2_o (by omega), up2_o (by omega), up2_o (by omega), up2_at]
  · rw [up2_o (by omega), up2_o (by omega), up2_o (by omega), up2_o (by omega), up2_o (by omega), up2_o (by omega), up2_o (by omega), up2_o (by omega), up2_at]
  · rw [up2_o (by omega), up2_o (by omega), up2_o (by omega), up2_o (by omega), up2_o (by omega), up2_o (by omega), up2_o (by omega), up2_at]
  · rw [up2_o (by omega), up2_o (by omega), up2_o (by omega), up2_o (by omega), up2_o (by omega), up2_o (by omega), up2_at]
  · rw [up2_o (by omega), up2_o (by omega), up2_o (by omega), up2_o (by omega), up2_o (by omega), up2_at]
  · rw [up2_o (by omega), up2_o (by omega), up2_o (by omega), up2_o (by omega), up2_at]
  · rw [up2_o (by omega), up2_o (by omega), up2_o (by omega), up2_at]
  · rw [up2_o (by omega), up2_o (by omega), up2_at]
  · rw [up2_o (by omega), up2_at]
theorem WKh_evn {π α : pm_T} {v j : Nat} {sT sB : Int} {h h' : ah_T} (hv : isV v) (H : WKh π α v h) (hs : α 0 1 + 1 ≤ α 0 0) (hc : ¬ (α 0 3 = 0 ∧ α 0 1 < 300)) (e : h' = st_i h 9 9 (α 0 1 + 1)) : WKh π (wk_ev π j sT sB α) v h' := by
  have v24 := isV_24 hv
  obtain ⟨⟨a1, a2, a3, a4⟩, b, c, d⟩ := H
  rw [wk_ev_n hc]
  have g : ∀ a k, ¬ (a = 9 ∧ k = 9) → h'.2.1 a k = h.2.1 a k := fun a k q => mm_i e q
  unfold WKh
  rw [up2_at, up2_o (by omega), up2_o (by omega), up2_o (by omega)]
  refine ⟨⟨?_, mv_i e, ?_, ?_⟩, by omega, ?_, fun q => absurd ⟨q.1, by omega⟩ hc⟩
  · rw [g _ _ (by omega)]; exact a1
  · rw [g _ _ (by omega)]; exact a3
  · rw [g _ _ (by omega)]; exact a4
  · rw [g _ _ (by omega)]; exact c
theorem WKh_evy {π α : pm_T} {v j e bars : Nat} {sT sB z lT lB : Int} {h h12 h18 h' : ah_T} (hv : isV v) (H : WKh π α v h) (hs : α 0 1 + 1 ≤ α 0 0) (hc : α 0 3 = 0 ∧ α 0 1 < 300) (hj : (j : Int) < π 0 0 ∧ π 1 j = 256) (he : α 0 1 = (e : Int)) (hba : h.2.1 v 16 = (bars : Int)) (e12 : h12 = st_i h 9 9 (α 0 1 + 1)) (f : fr (WEv v e) h12 h18) (hT : lT = lT_ π j sT sB) (hB : lB = lB_ π j sT sB) (hp : 1 ≤ lT ∧ 1 ≤ lB) (g1 : h18.2.1 (v + 7) e = π 18 j ∧ h18.2.1 (v + 8) e = (bars : Int) - 1 ∧ h18.2.2.1 (v + 11) e = lT ∧ h18.2.2.1 (v + 12) e = lB) (g2 : isFr lT lB = true → z = 0) (g3 : ¬ isFr lT lB = true → h18.2.1 v 14 = (e : Int) + 1 ∧ h18.2.2.1 (v + 9) (e + 1) = rdT (α 0 4 * lB + lT * α 0 5) (α 0 5 * lB) ∧ h18.2.2.1 (v + 10) (e + 1) = rdB (α 0 4 * lB + lT * α 0 5) (α 0 5 * lB) ∧ z = (if isFr (rdT (α 0 4 * lB + lT * α 0 5) (α 0 5 * lB)) (rdB (α 0 4 * lB + lT * α 0 5) (α 0 5 * lB)) = true then 0 else 1)) (e' : h' = st_i h18 9 11 z) : WKh π (wk_ev π j sT sB α) v h' := by
  have v24 := isV_24 hv
  obtain ⟨⟨a1, a2, a3, a4⟩, b, c, d⟩ := H
  have D := d ⟨hc.1, by omega⟩
  obtain ⟨w1, w2, w3, w4, w5⟩ := D
  have g : ∀ a k, ¬ (a = 9 ∧ (k = 9 ∨ k = 11)) → ¬ WEv v e a k → h'.2.1 a k = h.2.1 a k := fun a k q q2 => by
    rw [mm_i e' (by omega), fr_g f q2, mm_i e12 (by omega)]
  have gl : ∀ a k, ¬ WEv v e a k → h'.2.2.1 a k = h.2.2.1 a k := fun a k q2 => by
    rw [mm_io e', fr_gl f q2, mm_io e12]
  have q8 : h'.2.1 9 8 = α 0 0 := by rw [g _ _ (by omega) (by omega)]; exact a1
  have q9 : h'.2.1 9 9 = α 0 1 + 1 := by rw [mm_i e' (by omega), fr_g f (by omega), mv_i e12]
  have q10 : h'.2.1 9 10 = α 0 2 := by rw [g _ _ (by omega) (by omega)]; exact a3
  have q11 : h'.2.1 9 11 = z := mv_i e'
  have q16 : h'.2.1 v 16 = h.2.1 v 16 := g _ _ (by omega) (by omega)
  subst hT hB
  by_cases hf : isFr (lT_ π j sT sB) (lB_ π j sT sB) = true
  · obtain ⟨r3, r1, r2⟩ := wk_ev_f (π := π) (j := j) (sT := sT) (sB := sB) hc hf
    unfold WKh
    rw [wk_ev_0, r1, r2, r3, q8, q9, q10, q11, q16, g2 hf]
    exact ⟨⟨rfl, rfl, rfl, rfl⟩, by omega, c, fun q => absurd q.1 (by decide)⟩
  · obtain ⟨ro, r1, ⟨re1, re2, re3, re4, re5, re6⟩, r4, r5, r3⟩ := wk_ev_y (π := π) (j := j) (sT := sT) (sB := sB) hc he hf
    obtain ⟨y1, y2, y3, y4⟩ := g3 hf
    have r2 : wk_ev π j sT sB α 0 2 = α 0 2 := ro _ _ (by omega) (by omega)
    unfold WKh
    rw [wk_ev_0, r1, r2, q8, q9, q10, q11, q16]
    refine ⟨⟨rfl, rfl, rfl, ?_⟩, by omega, c, fun q => ?_⟩
    · rw [r3, y4]; split <;> rfl
    · rw [r3] at q
      have nf : ¬ isFr (rdT (α 0 4 * lB_ π j sT sB + lT_ π j sT sB * α 0 5) (α 0 5 * lB_ π j sT sB)) (rdB (α 0 4 * lB_ π j sT sB + lT_ π j sT sB * α 0 5) (α 0 5 * lB_ π j sT sB)) = true := fun w => by rw [if_pos w] at q; exact absurd q.1 (by decide)
      obtain ⟨n1, n2⟩ := isFr_n nf
      obtain ⟨m1, m2⟩ := isFr_n hf
      have u1 : 0 ≤ α 0 4 * lB_ π j sT sB := Int.mul_nonneg w2.1 (by omega)
      have u2 : 1 ≤ lT_ π j sT sB * α 0 5 := by have := Int.mul_le_mul hp.1 w2.2.2.1 (by decide) (by omega); omega
      have u3 : 1 ≤ α 0 5 * lB_ π j sT sB := by have := Int.mul_le_mul w2.2.2.1 hp.2 (by decide) (by omega); omega
      have t1 := (rdT_b (show 1 ≤ α 0 4 * lB_ π j sT sB + lT_ π j sT sB * α 0 5 by omega) u3).1
      have t2 := (rdB_b (show 1 ≤ α 0 4 * lB_ π j sT sB + lT_ π j sT sB * α 0 5 by omega) u3).1
      have en : (α 0 1 + 1).toNat = e + 1 := by omega
      have ee : (α 0 1).toNat = e := by omega
      rw [ee] at w3
      unfold WKe
      rw [r1, r2, r4, r5, en]
      refine ⟨by rw [mm_i e' (by omega), y1]; omega, ⟨by omega, n1, t2, n2⟩, ⟨by rw [mm_io e']; exact y2, by rw [mm_io e']; exact y3⟩, fun k hk => ?_, fun hl k hk => ?_⟩
      · by_cases ck : k = e
        · subst ck
          have l9 : h'.2.2.1 (v + 9) k = α 0 4 := by rw [gl _ _ (by omega)]; exact w3.1
          have l10 : h'.2.2.1 (v + 10) k = α 0 5 := by rw [gl _ _ (by omega)]; exact w3.2
          have jj : (j : Int).toNat = j := tn_c j
          unfold EVh
          rw [re1, re2, re3, re4, re5, re6, r2, jj, l9, l10, mm_i e' (by omega), mm_i e' (by omega), mm_io e', mm_io e']
          refine ⟨⟨by omega, hj.1, hj.2⟩, g1.1, fun hl => ?_, ⟨rfl, rfl, g1.2.2.1, g1.2.2.2⟩, w2, hp.1, m1, hp.2, m2⟩
          rw [g1.2.1]; have := c.1 hl; omega
        · obtain ⟨y1', y2', y3', y4', y5'⟩ := w4 k (by omega)
          unfold EVh
          rw [ro 1 _ (by omega) (by omega), ro 2 _ (by omega) (by omega), ro 3 _ (by omega) (by omega), ro 4 _ (by omega) (by omega), ro 5 _ (by omega) (by omega), ro 6 _ (by omega) (by omega), r2, g _ _ (by omega) (by omega), g _ _ (by omega) (by omega), gl _ _ (by omega), gl _ _ (by omega), gl _ _ (by omega), gl _ _ (by omega)]
          exact ⟨y1', y2', y3', y4', y5'⟩
      · rw [g _ _ (by omega) (by omega), ro 7 _ (by omega) (by omega)]
        have := w5 hl k hk
        exact ⟨this.1, this.2.1, by omega⟩

/-! ===== the WALK, class: through runs and repeats ===== -/
def bq (d : Nat) : Int := 16 ^ (7 - d)
theorem bq_s : ∀ d : Nat, d < 7 → bq (d + 1) * 16 = bq d := by decide
theorem bq_u : ∀ d : Nat, d < 8 → 1 ≤ bq d ∧ bq d ≤ 268435456 := by decide
def WKp (π α : pm_T) (v : Nat) (h : ah_T) : Prop := WKh π α v h ∨ (2000 < h.2.1 9 8 ∧ 2000 < α 0 0 ∧ 0 ≤ h.2.1 v 16)
theorem RPc_w {π : pm_T} {v : Nat} {h h' : ah_T} (v24 : 24 ≤ v) (H : RPc π v h) (P : PW π) (f : fr (WW v) h h') : RPc π v h' := by
  obtain ⟨⟨a1, a2, a3, a4, a5⟩, hd, hj⟩ := H
  have g : ∀ a k, ¬ WW v a k → h'.2.1 a k = h.2.1 a k := fun a k q => fr_g f q
  refine ⟨⟨by rw [g _ _ (by omega)]; exact a1, by rw [g _ _ (by omega)]; exact a2, by rw [g _ _ (by omega)]; exact a3, by rw [g _ _ (by omega)]; exact a4, by rw [g _ _ (by omega)]; exact a5⟩, fun d h1 => by rw [g _ _ (by omega), g _ _ (by omega)]; exact hd d h1, fun j h1 => ?_⟩
  exact RPj_c (hj j h1) (P.2.2 j h1) (Int.le_refl _) (Int.le_refl _) (fun _ _ => rfl) (g _ _ (by omega)) (by rw [g _ _ (by omega)]; exact (hj j h1).1.2) ⟨g _ _ (by omega), g _ _ (by omega)⟩ (fun k _ => ⟨g _ _ (by omega), g _ _ (by omega), g _ _ (by omega)⟩) (fun k _ => g _ _ (by omega)) (fun k _ => ⟨g _ _ (by omega), g _ _ (by omega)⟩)
theorem WKp_st {π α : pm_T} {v : Nat} {h h' : ah_T} {x : Int} (hv : isV v) (H : WKp π α v h) (hx : x = h.2.1 9 8) (e : h' = st_i h 9 8 (x + 1)) : WKp π (wk_st α) v h' := by
  rcases H with H | ⟨H1, H2, H3⟩
  · exact Or.inl (WKh_st hv H hx e)
  · have v24 := isV_24 hv
    exact Or.inr ⟨by rw [mv_i e]; omega, by rw [wk_st_0]; omega, by rw [mm_i e (by omega)]; exact H3⟩
theorem cls_ok {π : pm_T} {b : Bool} {d p c : Nat} (H : RG π b d p c) : b = false → ∀ f, c ≤ f + p → cls π f (lk π p) = c := by
  induction H using RG.rc with
  | nil => intro w; cases w
  | ev _ _ _ => intro w; cases w
  | ln _ _ _ => intro w; cases w
  | st _ _ _ _ _ _ _ => intro w; cases w
  | rp _ _ _ _ _ => intro w; cases w
  | m1 h hk _ _ =>
    intro _ f _
    cases f with
    | zero => rfl
    | succ f => rw [cls, if_neg (by omega)]
  | m2 h hk _ r2 _ i2 =>
    intro _ f hf
    have := (RG_le r2).2 rfl
    obtain ⟨f', rfl⟩ : ∃ f', f = f' + 1 := ⟨f - 1, by omega⟩
    rw [cls, if_pos hk]
    exact i2 rfl f' (by omega)
/-- a repeat's walk -/
def wkR (π : pm_T) (f x : Nat) (sT sB : Int) (α : pm_T) : pm_T := if π 1 (lk π x) = 58 then wk π f false x (lk π x) sT sB α else wk π f true (x + 1) (lk π x) sT sB (wk_st (wk π f true (x + 1) (lk π x) sT sB (wk_st α)))
def AWk (G : cx_T) (s v : Nat) (π : pm_T) (d : Nat) : Prop := ∀ (dd x y F : Nat) (a2 a3 a4 sT sB : Int) (α : pm_T) (hh : ah_T), 5 + 2 * d ≤ dd → a2 = (x : Int) → a3 = (y : Int) → a4 = 7 - (d : Int) → hb s hh → RPc π v hh → RG π true d x y → y ≤ sz π → y + 1 ≤ F + x → (1 ≤ sT ∧ sT ≤ bq d) → (1 ≤ sB ∧ sB ≤ bq d) → WKp π α v hh →
  con G (dd + 1) 0 0 m_Parts_walkThrough [av_R (some 9), av_R (some v), av_I a2, av_I a3, av_I a4, av_L sT, av_L sB] hh (fun r h' => r = none ∧ hb s h' ∧ fr (WW v) hh h' ∧ WKp π (wk π F true x y sT sB α) v h' ∧ (h'.2.1 9 8 ≤ hh.2.1 9 8 ∨ h'.2.1 9 8 ≤ 2001 + 4004 * (d : Int)))
def BWk (G : cx_T) (s v : Nat) (π : pm_T) (d : Nat) : Prop := ∀ (dd o c F : Nat) (a2 a3 sT sB : Int) (α : pm_T) (hh : ah_T), 6 + 2 * d ≤ dd → a2 = (o : Int) → a3 = 6 - (d : Int) → hb s hh → RPc π v hh → RG π false d o c → c < sz π → c + 1 ≤ F + o → (1 ≤ sT ∧ sT ≤ bq d) → (1 ≤ sB ∧ sB ≤ bq d) → WKp π α v hh → hh.2.1 9 8 ≤ 2001 →
  con G (dd + 1) 0 0 m_Parts_walkRepeat [av_R (some 9), av_R (some v), av_I a2, av_I a3, av_L sT, av_L sB] hh (fun r h' => ∃ z, r = some (av_I z) ∧ z = (c : Int) ∧ hb s h' ∧ fr (WW v) hh h' ∧ WKp π (wkR π F o sT sB α) v h' ∧ h'.2.1 9 8 ≤ 2001 + 4004 * ((d : Int) + 1))
/-- the first stretch of a [ -/
theorem RG_1 {π : pm_T} {d o c : Nat} (H : RG π false d o c) : o < lk π o ∧ lk π o ≤ c ∧ RG π true d (o + 1) (lk π o) ∧ ((π 1 (lk π o) = 93 ∧ c = lk π o) ∨ (π 1 (lk π o) = 58 ∧ RG π false d (lk π o) c)) := by
  have key : ∀ (b : Bool) (d o c : Nat) (H : RG π b d o c), b = false → o < lk π o ∧ lk π o ≤ c ∧ RG π true d (o + 1) (lk π o) ∧ ((π 1 (lk π o) = 93 ∧ c = lk π o) ∨ (π 1 (lk π o) = 58 ∧ RG π false d (lk π o) c)) := by
    intro b d o c H
    induction H using RG.rc with
    | nil => intro w; cases w
    | ev _ _ _ => intro w; cases w
    | ln _ _ _ => intro w; cases w
    | st _ _ _ _ _ _ _ => intro w; cases w
    | rp _ _ _ _ _ => intro w; cases w
    | m1 h hk r _ => intro _; exact ⟨h, Nat.le_refl _, r, Or.inl ⟨hk, rfl⟩⟩
    | m2 h hk r r2 _ _ => intro _; exact ⟨h, (RG_le r2).1, r, Or.inr ⟨hk, r2⟩⟩
  exact key _ _ _ _ H rfl
theorem RG_2 {π : pm_T} {b : Bool} {d o c : Nat} (H : RG π b d o c) : b = false → π 1 c = 93 := by
  induction H using RG.rc with
  | nil => intro w; cases w
  | ev _ _ _ => intro w; cases w
  | ln _ _ _ => intro w; cases w
  | st _ _ _ _ _ _ _ => intro w; cases w
  | rp _ _ _ _ _ => intro w; cases w
  | m1 _ hk _ _ => intro _; exact hk
  | m2 _ _ _ _ _ i2 => intro _; exact i2 rfl
theorem t_BWk {G : cx_T} {s v : Nat} {π : pm_T} {d : Nat} (hv : isV v) (P : PW π) (hz : π 0 0 ≤ 2000) (hd : d < 7) (A : AWk G s v π d) : BWk G s v π d := by
  intro dd o c F a2 a3 sT sB α hh hdd ea2 ea3 hb0 HR R hc hF hT hB hK h98
  subst ea2 ea3
  have v24 := isV_24 hv
  obtain ⟨o1, o2, R1, oc⟩ := RG_1 R
  have hcs : (c : Int) < π 0 0 := by unfold sz at hc; have := P.1.1; omega
  have lkh : ∀ (h' : ah_T) (j : Nat), RPc π v h' → (j : Int) < π 0 0 → h'.2.1 11 j = (lk π j : Int) ∧ h'.2.1 10 j = π 1 j := fun h' j H hj => by
    have h1 := (H.2.2 j hj).1
    have h2 := (P.2.2 j hj).1
    exact ⟨by rw [h1.2]; unfold lk; omega, h1.1⟩
  refine c_Parts_walkRepeat (by omega) hv (X84 := fun v8 v9 v10 h1 => v8 = (lk π o : Int) ∧ 0 ≤ v10 ∧ ∃ (p f : Nat) (α' : pm_T), v9 = (p : Int) ∧ v10 + o + 1 ≤ (p : Int) ∧ hb s h1 ∧ RPc π v h1 ∧ fr (WW v) hh h1 ∧ WKp π α' v h1 ∧ h1.2.1 9 8 ≤ 2001 + 4004 * (d : Int) + v10 ∧ (lk π o - o) + (c - p) + 1 ≤ f ∧ wkR π F o sT sB α = wk π f false o p sT sB α' ∧ ((π 1 p = 58 ∧ RG π false d p c) ∨ p = c)) ?_ hb0 (fun _ _ _ _ => ?_)
  · refine lp_Parts_walkRepeat_84 (by omega) hv _ (fun _ v9 _ _ => (c : Int).toNat - v9.toNat) ?_
    rintro v8 v9 v10 h1 hb1 ⟨rfl, h10, p, f, α', rfl, hp, -, HR1, hf, hK1, hs1, hfu, ew, hc1⟩
    have hpc : p ≤ c := by
      rcases hc1 with ⟨-, r⟩ | r
      · exact (RG_le r).1
      · omega
    obtain ⟨f', rfl⟩ : ∃ f', f = f' + 1 := ⟨f - 1, by omega⟩
    unfold B_Parts_walkRepeat_84
    refine ⟨fun w => by omega, fun w => ⟨⟨by omega, by omega⟩, ?_⟩⟩
    rw [tn_c]
    intro x2 e2 _ _
    have e2' : x2 = π 1 p := e2.trans (lkh h1 p HR1 (by omega)).2
    refine ⟨fun c58 x4 e4 _ _ => ⟨⟨by omega, by omega⟩, fun h6 e6 => ⟨⟨by omega, by omega⟩, ⟨by omega, by omega⟩, ?_⟩⟩, fun c58 => ?_⟩
    · have k58 : π 1 p = 58 := e2'.symm.trans c58
      have r : RG π false d p c := by
        rcases hc1 with ⟨-, r⟩ | r
        · exact r
        · have := RG_2 R rfl; rw [← r] at this; omega
      obtain ⟨q1, q2, q3, q4⟩ := RG_1 r
      rw [wk, if_pos k58] at ew
      have hb6 := hb_i hb1 e6
      have f6 : fr (WW v) h1 h6 := fr_i fr_0 e6 (Or.inl ⟨rfl, Nat.le_refl _⟩)
      have HR6 := RPc_w v24 HR1 P f6
      obtain ⟨dd', rfl⟩ : ∃ dd', dd = dd' + 1 := ⟨dd - 1, by omega⟩
      refine con_mono (A dd' (o + 1) (lk π o) f' _ _ _ sT sB (wk_st α') h6 (by omega) (by omega) rfl (by omega) hb6 HR6 R1 (by omega) (by omega) hT hB (WKp_st hv hK1 e4 e6)) ?_
      rintro r' h10' ⟨rfl, hb10, f10, K10, s10⟩
      have HR10 := RPc_w v24 HR6 P f10
      have e68 : h6.2.1 9 8 = h1.2.1 9 8 + 1 := by rw [mv_i e6, e4]
      refine ⟨rfl, hb10, ⟨by omega, by omega⟩, fun x15 e15 _ _ => ?_⟩
      have e15' : x15 = (lk π p : Int) := e15.trans (lkh h10' p HR10 (by omega)).1
      subst e15'
      refine con_mono (A dd' (p + 1) (lk π p) f' _ _ _ sT sB _ h10' (by omega) (by omega) rfl (by omega) hb10 HR10 q3 (by omega) (by omega) hT hB K10) ?_
      rintro r' h16 ⟨rfl, hb16, f16, K16, s16⟩
      have HR16 := RPc_w v24 HR10 P f16
      refine ⟨rfl, hb16, fun x20 e20 _ _ => ?_⟩
      have e20' : x20 = (lk π p : Int) := e20.trans (lkh h16 p HR16 (by omega)).1
      subst e20'
      refine ⟨⟨by omega, by omega⟩, ⟨rfl, by omega, lk π p, f', _, rfl, by omega, hb16, HR16, fr_t (fr_t (fr_t hf f6 (fun _ _ w => w)) f10 (fun _ _ w => w)) f16 (fun _ _ w => w), K16, by omega, by omega, ew, ?_⟩, by omega⟩
      rcases q4 with ⟨-, q⟩ | q
      · exact Or.inr q.symm
      · exact Or.inl q
    · have hpe : p = c := by
        rcases hc1 with ⟨k, -⟩ | r
        · exact absurd (e2'.trans k) c58
        · exact r
      have n58 : ¬ π 1 p = 58 := fun w => c58 (e2'.trans w)
      rw [wk, if_neg n58] at ew
      unfold B_Parts_walkRepeat_169
      refine ⟨_, rfl, by omega, hb1, hf, by rw [ew]; exact hK1, by omega⟩
  · unfold B_Parts_walkRepeat_0
    refine ⟨⟨by omega, by omega⟩, ?_⟩
    rw [tn_c]
    intro x2 e2 _ _
    have e2' : x2 = (lk π o : Int) := e2.trans (lkh hh o HR (by omega)).1
    subst e2'
    refine ⟨⟨by omega, by omega⟩, ?_⟩
    rw [tn_c]
    intro x5 e5 _ _
    have e5' : x5 = π 1 (lk π o) := e5.trans (lkh hh _ HR (by omega)).2
    refine ⟨fun c58 => ?_, fun c58 x7 e7 _ _ => ⟨⟨by omega, by omega⟩, fun h9 e9 => ⟨⟨by omega, by omega⟩, ⟨by omega, by omega⟩, ?_⟩⟩⟩
    · have k58 : π 1 (lk π o) = 58 := e5'.symm.trans c58
      refine ⟨rfl, Int.le_refl _, lk π o, F, α, rfl, by omega, hb0, HR, fr_0, hK, by omega, by omega, by unfold wkR; rw [if_pos k58], ?_⟩
      rcases oc with ⟨k, -⟩ | q
      · omega
      · exact Or.inl q
    · have n58 : ¬ π 1 (lk π o) = 58 := fun w => c58 (e5'.trans w)
      have hce : c = lk π o := by
        rcases oc with ⟨-, k⟩ | q
        · exact k
        · exact absurd q.1 n58
      have hb9 := hb_i hb0 e9
      have f9 : fr (WW v) hh h9 := fr_i fr_0 e9 (Or.inl ⟨rfl, Nat.le_refl _⟩)
      have HR9 := RPc_w v24 HR P f9
      have e98 : h9.2.1 9 8 = hh.2.1 9 8 + 1 := by rw [mv_i e9, e7]
      obtain ⟨dd', rfl⟩ : ∃ dd', dd = dd' + 1 := ⟨dd - 1, by omega⟩
      refine con_mono (A dd' (o + 1) (lk π o) F _ _ _ sT sB (wk_st α) h9 (by omega) (by omega) rfl (by omega) hb9 HR9 R1 (by omega) (by omega) hT hB (WKp_st hv hK e7 e9)) ?_
      rintro r' h13 ⟨rfl, hb13, f13, K13, s13⟩
      refine ⟨rfl, hb13, fun x16 e16 _ _ => ⟨⟨by omega, by omega⟩, fun h18 e18 => ?_⟩⟩
      have HR13 := RPc_w v24 HR9 P f13
      have hb18 := hb_i hb13 e18
      have f18 : fr (WW v) h13 h18 := fr_i fr_0 e18 (Or.inl ⟨rfl, Nat.le_refl _⟩)
      have HR18 := RPc_w v24 HR13 P f18
      have e188 : h18.2.1 9 8 = h13.2.1 9 8 + 1 := by rw [mv_i e18, e16]
      refine con_mono (A dd' (o + 1) (lk π o) F _ _ _ sT sB _ h18 (by omega) (by omega) rfl (by omega) hb18 HR18 R1 (by omega) (by omega) hT hB (WKp_st hv K13 e16 e18)) ?_
      rintro r' h20 ⟨rfl, hb20, f20, K20, s20⟩
      refine ⟨rfl, hb20, _, rfl, by omega, hb20, fr_t (fr_t (fr_t f9 f13 (fun _ _ w => w)) f18 (fun _ _ w => w)) f20 (fun _ _ w => w), ?_, by omega⟩
      unfold wkR
      rw [if_neg n58]
      exact K20
