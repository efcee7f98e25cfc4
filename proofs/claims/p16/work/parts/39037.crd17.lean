/-! ===== the WALK, class: through runs and repeats ===== -/
def bq (d : Nat) : Int := 16 ^ (7 - d)
theorem bq_s : ∀ d : Nat, d < 7 → bq (d + 1) * 16 = bq d := by decide
theorem bq_u : ∀ d : Nat, d < 8 → 1 ≤ bq d ∧ bq d ≤ 268435456 := by decide
def WKp (π α : pm_T) (v : Nat) (h : ah_T) : Prop := WKh π α v h ∨ (2000 < h.2.1 9 8 ∧ 2000 < α 0 0 ∧ 0 ≤ h.2.1 v 16)
theorem RPc_w {π : pm_T} {v : Nat} {h h' : ah_T} (v24 : 24 ≤ v) (H : RPc π v h) (P : PW π) (f : fr (WW v) h h') : RPc π v h' := by
  obtain ⟨⟨a1, a2, a3, a4, a5⟩, hd, hj⟩ := H
  have g : ∀ a k, ¬ WW v a k → h'.2.1 a k = h.2.1 a k := fun a k q => fr_g f q
  refine ⟨⟨by rw [g _ _ (by omega)]; exact a1, by rw [g _ _ (by omega)]; exact a2, by rw [g _ _ (by omega)]; exact a3, by rw [g _ _ (by omega)]; exact a4, by rw [g _ _ (by omega)]; exact a5⟩, fun d h1 => by rw [g _ _ (by omega), g _ _ (by omega)]; exact hd d h1, fun j h1 => ?_⟩
  exact RPj_c (hj j h1) (P.2.2 j h1) (Int.le_refl _) (Int.le_refl _) (fun _ _ => rfl) (g _ _ (by omega)) (by rw [g _ _ (by omega)]; exact (hj j h1).1.2) ⟨g _ _ (by omega), g _ _ (by omega)⟩ (fun k _ => ⟨g _ _ (by omega), g _ _ (by omega), g _ _ (by omega)⟩) (fun k _ => g _ _ (by omega)) (fun k _ => ⟨g _ _ (by omega), g _ _ (by omega)⟩)
theorem WKp_st {π α : pm_T} {v : Nat} {h h' : ah_T} {x : Int} (hv : isV v) (H : WKp π α v h) (hx : x = h.2.1 9 8) (e : h' = st_i h 9 8 (x + 1)) : WKp π (wk_st α) v h' := by
  rcases H with H | ⟨H1, H2, H3⟩
  · exact Or.inl (WKh_st hv H hx e)
  · have v24 := isV_24 hv
    exact Or.inr ⟨by rw [mv_i e]; omega, by rw [wk_st_0]; omega, by rw [mm_i e (by omega)]; exact H3⟩
theorem cls_ok {π : pm_T} {b : Bool} {d p c : Nat} (H : RG π b d p c) : b = false → ∀ f, c ≤ f + p → cls π f (lk π p) = c := by
  induction H using RG.rc with
  | nil => intro w; cases w
  | ev _ _ _ => intro w; cases w
  | ln _ _ _ => intro w; cases w
  | st _ _ _ _ _ _ _ => intro w; cases w
  | rp _ _ _ _ _ => intro w; cases w
  | m1 h hk _ _ =>
    intro _ f _
    cases f with
    | zero => rfl
    | succ f => rw [cls, if_neg (by omega)]
  | m2 h hk _ r2 _ i2 =>
    intro _ f hf
    have := (RG_le r2).2 rfl
    obtain ⟨f', rfl⟩ : ∃ f', f = f' + 1 := ⟨f - 1, by omega⟩
    rw [cls, if_pos hk]
    exact i2 rfl f' (by omega)
/-- a repeat's walk -/
def wkR (π : pm_T) (f x : Nat) (sT sB : Int) (α : pm_T) : pm_T := if π 1 (lk π x) = 58 then wk π f false x (lk π x) sT sB α else wk π f true (x + 1) (lk π x) sT sB (wk_st (wk π f true (x + 1) (lk π x) sT sB (wk_st α)))
def AWk (G : cx_T) (s v : Nat) (π : pm_T) (d : Nat) : Prop := ∀ (dd x y F : Nat) (a2 a3 a4 sT sB : Int) (α : pm_T) (hh : ah_T), 5 + 2 * d ≤ dd → a2 = (x : Int) → a3 = (y : Int) → a4 = 7 - (d : Int) → hb s hh → RPc π v hh → RG π true d x y → y ≤ sz π → y + 1 ≤ F + x → (1 ≤ sT ∧ sT ≤ bq d) → (1 ≤ sB ∧ sB ≤ bq d) → WKp π α v hh →
  con G (dd + 1) 0 0 m_Parts_walkThrough [av_R (some 9), av_R (some v), av_I a2, av_I a3, av_I a4, av_L sT, av_L sB] hh (fun r h' => r = none ∧ hb s h' ∧ fr (WW v) hh h' ∧ WKp π (wk π F true x y sT sB α) v h' ∧ (h'.2.1 9 8 ≤ hh.2.1 9 8 ∨ h'.2.1 9 8 ≤ 2001 + 4004 * (d : Int)))
def BWk (G : cx_T) (s v : Nat) (π : pm_T) (d : Nat) : Prop := ∀ (dd o c F : Nat) (a2 a3 sT sB : Int) (α : pm_T) (hh : ah_T), 6 + 2 * d ≤ dd → a2 = (o : Int) → a3 = 6 - (d : Int) → hb s hh → RPc π v hh → RG π false d o c → c < sz π → c + 1 ≤ F + o → (1 ≤ sT ∧ sT ≤ bq d) → (1 ≤ sB ∧ sB ≤ bq d) → WKp π α v hh → hh.2.1 9 8 ≤ 2001 →
  con G (dd + 1) 0 0 m_Parts_walkRepeat [av_R (some 9), av_R (some v), av_I a2, av_I a3, av_L sT, av_L sB] hh (fun r h' => ∃ z, r = some (av_I z) ∧ z = (c : Int) ∧ hb s h' ∧ fr (WW v) hh h' ∧ WKp π (wkR π F o sT sB α) v h' ∧ h'.2.1 9 8 ≤ 2001 + 4004 * ((d : Int) + 1))
/-- the first stretch of a [ -/
theorem RG_1 {π : pm_T} {d o c : Nat} (H : RG π false d o c) : o < lk π o ∧ lk π o ≤ c ∧ RG π true d (o + 1) (lk π o) ∧ ((π 1 (lk π o) = 93 ∧ c = lk π o) ∨ (π 1 (lk π o) = 58 ∧ RG π false d (lk π o) c)) := by
  have key : ∀ (b : Bool) (d o c : Nat) (H : RG π b d o c), b = false → o < lk π o ∧ lk π o ≤ c ∧ RG π true d (o + 1) (lk π o) ∧ ((π 1 (lk π o) = 93 ∧ c = lk π o) ∨ (π 1 (lk π o) = 58 ∧ RG π false d (lk π o) c)) := by
    intro b d o c H
    induction H using RG.rc with
    | nil => intro w; cases w
    | ev _ _ _ => intro w; cases w
    | ln _ _ _ => intro w; cases w
    | st _ _ _ _ _ _ _ => intro w; cases w
    | rp _ _ _ _ _ => intro w; cases w
    | m1 h hk r _ => intro _; exact ⟨h, Nat.le_refl _, r, Or.inl ⟨hk, rfl⟩⟩
    | m2 h hk r r2 _ _ => intro _; exact ⟨h, (RG_le r2).1, r, Or.inr ⟨hk, r2⟩⟩
  exact key _ _ _ _ H rfl
theorem RG_2 {π : pm_T} {b : Bool} {d o c : Nat} (H : RG π b d o c) : b = false → π 1 c = 93 := by
  induction H using RG.rc with
  | nil => intro w; cases w
  | ev _ _ _ => intro w; cases w
  | ln _ _ _ => intro w; cases w
  | st _ _ _ _ _ _ _ => intro w; cases w
  | rp _ _ _ _ _ => intro w; cases w
  | m1 _ hk _ _ => intro _; exact hk
  | m2 _ _ _ _ _ i2 => intro _; exact i2 rfl
theorem t_BWk {G : cx_T} {s v : Nat} {π : pm_T} {d : Nat} (hv : isV v) (P : PW π) (hz : π 0 0 ≤ 2000) (hd : d < 7) (A : AWk G s v π d) : BWk G s v π d := by
  intro dd o c F a2 a3 sT sB α hh hdd ea2 ea3 hb0 HR R hc hF hT hB hK h98
  subst ea2 ea3
  have v24 := isV_24 hv
  obtain ⟨o1, o2, R1, oc⟩ := RG_1 R
  have hcs : (c : Int) < π 0 0 := by unfold sz at hc; have := P.1.1; omega
  have lkh : ∀ (h' : ah_T) (j : Nat), RPc π v h' → (j : Int) < π 0 0 → h'.2.1 11 j = (lk π j : Int) ∧ h'.2.1 10 j = π 1 j := fun h' j H hj => by
    have h1 := (H.2.2 j hj).1
    have h2 := (P.2.2 j hj).1
    exact ⟨by rw [h1.2]; unfold lk; omega, h1.1⟩
  refine c_Parts_walkRepeat (by omega) hv (X84 := fun v8 v9 v10 h1 => v8 = (lk π o : Int) ∧ 0 ≤ v10 ∧ ∃ (p f : Nat) (α' : pm_T), v9 = (p : Int) ∧ v10 + o + 1 ≤ (p : Int) ∧ hb s h1 ∧ RPc π v h1 ∧ fr (WW v) hh h1 ∧ WKp π α' v h1 ∧ h1.2.1 9 8 ≤ 2001 + 4004 * (d : Int) + v10 ∧ (lk π o - o) + (c - p) + 1 ≤ f ∧ wkR π F o sT sB α = wk π f false o p sT sB α' ∧ ((π 1 p = 58 ∧ RG π false d p c) ∨ p = c)) ?_ hb0 (fun _ _ _ _ => ?_)
  · refine lp_Parts_walkRepeat_84 (by omega) hv _ (fun _ v9 _ _ => (c : Int).toNat - v9.toNat) ?_
    rintro v8 v9 v10 h1 hb1 ⟨rfl, h10, p, f, α', rfl, hp, -, HR1, hf, hK1, hs1, hfu, ew, hc1⟩
    have hpc : p ≤ c := by
      rcases hc1 with ⟨-, r⟩ | r
      · exact (RG_le r).1
      · omega
    obtain ⟨f', rfl⟩ : ∃ f', f = f' + 1 := ⟨f - 1, by omega⟩
    unfold B_Parts_walkRepeat_84
    refine ⟨fun w => by omega, fun w => ⟨⟨by omega, by omega⟩, ?_⟩⟩
    rw [tn_c]
    intro x2 e2 _ _
    have e2' : x2 = π 1 p := e2.trans (lkh h1 p HR1 (by omega)).2
    refine ⟨fun c58 x4 e4 _ _ => ⟨⟨by omega, by omega⟩, fun h6 e6 => ⟨⟨by omega, by omega⟩, ⟨by omega, by omega⟩, ?_⟩⟩, fun c58 => ?_⟩
    · have k58 : π 1 p = 58 := e2'.symm.trans c58
      have r : RG π false d p c := by
        rcases hc1 with ⟨-, r⟩ | r
        · exact r
        · have := RG_2 R rfl; rw [← r] at this; omega
      obtain ⟨q1, q2, q3, q4⟩ := RG_1 r
      rw [wk, if_pos k58] at ew
      have hb6 := hb_i hb1 e6
      have f6 : fr (WW v) h1 h6 := fr_i fr_0 e6 (Or.inl ⟨rfl, Nat.le_refl _⟩)
      have HR6 := RPc_w v24 HR1 P f6
      obtain ⟨dd', rfl⟩ : ∃ dd', dd = dd' + 1 := ⟨dd - 1, by omega⟩
      refine con_mono (A dd' (o + 1) (lk π o) f' _ _ _ sT sB (wk_st α') h6 (by omega) (by omega) rfl (by omega) hb6 HR6 R1 (by omega) (by omega) hT hB (WKp_st hv hK1 e4 e6)) ?_
      rintro r' h10' ⟨rfl, hb10, f10, K10, s10⟩
      have HR10 := RPc_w v24 HR6 P f10
      have e68 : h6.2.1 9 8 = h1.2.1 9 8 + 1 := by rw [mv_i e6, e4]
      refine ⟨rfl, hb10, ⟨by omega, by omega⟩, fun x15 e15 _ _ => ?_⟩
      have e15' : x15 = (lk π p : Int) := e15.trans (lkh h10' p HR10 (by omega)).1
      subst e15'
      refine con_mono (A dd' (p + 1) (lk π p) f' _ _ _ sT sB _ h10' (by omega) (by omega) rfl (by omega) hb10 HR10 q3 (by omega) (by omega) hT hB K10) ?_
      rintro r' h16 ⟨rfl, hb16, f16, K16, s16⟩
      have HR16 := RPc_w v24 HR10 P f16
      refine ⟨rfl, hb16, fun x20 e20 _ _ => ?_⟩
      have e20' : x20 = (lk π p : Int) := e20.trans (lkh h16 p HR16 (by omega)).1
      subst e20'
      refine ⟨⟨by omega, by omega⟩, ⟨rfl, by omega, lk π p, f', _, rfl, by omega, hb16, HR16, fr_t (fr_t (fr_t hf f6 (fun _ _ w => w)) f10 (fun _ _ w => w)) f16 (fun _ _ w => w), K16, by omega, by omega, ew, ?_⟩, by omega⟩
      rcases q4 with ⟨-, q⟩ | q
      · exact Or.inr q.symm
      · exact Or.inl q
    · have hpe : p = c := by
        rcases hc1 with ⟨k, -⟩ | r
        · exact absurd (e2'.trans k) c58
        · exact r
      have n58 : ¬ π 1 p = 58 := fun w => c58 (e2'.trans w)
      rw [wk, if_neg n58] at ew
      unfold B_Parts_walkRepeat_169
      refine ⟨_, rfl, by omega, hb1, hf, by rw [ew]; exact hK1, by omega⟩
  · unfold B_Parts_walkRepeat_0
    refine ⟨⟨by omega, by omega⟩, ?_⟩
    rw [tn_c]
    intro x2 e2 _ _
    have e2' : x2 = (lk π o : Int) := e2.trans (lkh hh o HR (by omega)).1
    subst e2'
    refine ⟨⟨by omega, by omega⟩, ?_⟩
    rw [tn_c]
    intro x5 e5 _ _
    have e5' : x5 = π 1 (lk π o) := e5.trans (lkh hh _ HR (by omega)).2
    refine ⟨fun c58 => ?_, fun c58 x7 e7 _ _ => ⟨⟨by omega, by omega⟩, fun h9 e9 => ⟨⟨by omega, by omega⟩, ⟨by omega, by omega⟩, ?_⟩⟩⟩
    · have k58 : π 1 (lk π o) = 58 := e5'.symm.trans c58
      refine ⟨rfl, Int.le_refl _, lk π o, F, α, rfl, by omega, hb0, HR, fr_0, hK, by omega, by omega, by unfold wkR; rw [if_pos k58], ?_⟩
      rcases oc with ⟨k, -⟩ | q
      · omega
      · exact Or.inl q
    · have n58 : ¬ π 1 (lk π o) = 58 := fun w => c58 (e5'.trans w)
      have hce : c = lk π o := by
        rcases oc with ⟨-, k⟩ | q
        · exact k
        · exact absurd q.1 n58
      have hb9 := hb_i hb0 e9
      have f9 : fr (WW v) hh h9 := fr_i fr_0 e9 (Or.inl ⟨rfl, Nat.le_refl _⟩)
      have HR9 := RPc_w v24 HR P f9
      have e98 : h9.2.1 9 8 = hh.2.1 9 8 + 1 := by rw [mv_i e9, e7]
      obtain ⟨dd', rfl⟩ : ∃ dd', dd = dd' + 1 := ⟨dd - 1, by omega⟩
      refine con_mono (A dd' (o + 1) (lk π o) F _ _ _ sT sB (wk_st α) h9 (by omega) (by omega) rfl (by omega) hb9 HR9 R1 (by omega) (by omega) hT hB (WKp_st hv hK e7 e9)) ?_
      rintro r' h13 ⟨rfl, hb13, f13, K13, s13⟩
      refine ⟨rfl, hb13, fun x16 e16 _ _ => ⟨⟨by omega, by omega⟩, fun h18 e18 => ?_⟩⟩
      have HR13 := RPc_w v24 HR9 P f13
      have hb18 := hb_i hb13 e18
      have f18 : fr (WW v) h13 h18 := fr_i fr_0 e18 (Or.inl ⟨rfl, Nat.le_refl _⟩)
      have HR18 := RPc_w v24 HR13 P f18
      have e188 : h18.2.1 9 8 = h13.2.1 9 8 + 1 := by rw [mv_i e18, e16]
      refine con_mono (A dd' (o + 1) (lk π o) F _ _ _ sT sB _ h18 (by omega) (by omega) rfl (by omega) hb18 HR18 R1 (by omega) (by omega) hT hB (WKp_st hv K13 e16 e18)) ?_
      rintro r' h20 ⟨rfl, hb20, f20, K20, s20⟩
      refine ⟨rfl, hb20, _, rfl, by omega, hb20, fr_t (fr_t (fr_t f9 f13 (fun _ _ w => w)) f18 (fun _ _ w => w)) f20 (fun _ _ w => w), ?_, by omega⟩
      unfold wkR
      rw [if_neg n58]
      exact K20
