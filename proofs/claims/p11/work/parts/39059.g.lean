/-! ===== the WALK: runs without their fuel, what is left of it ===== -/
def wt (π : pm_T) (x y : Nat) (sT sB : Int) (α : pm_T) : pm_T := wk π 5000 true x y sT sB α
def wf (π : pm_T) (o y : Nat) (sT sB : Int) (α : pm_T) : pm_T := wk π 5000 false o y sT sB α
/-- enough fuel is enough -/
def Ft (π : pm_T) (x y : Nat) : Prop := ∀ F1 F2, y + 1 ≤ F1 + x → y + 1 ≤ F2 + x → ∀ (sT sB : Int) (α : pm_T), wk π F1 true x y sT sB α = wk π F2 true x y sT sB α
def Ff (π : pm_T) (p c : Nat) : Prop := Ft π (p + 1) (lk π p) ∧ ∀ o, o < lk π o → Ft π (o + 1) (lk π o) → ∀ F1 F2, c + 1 + lk π o ≤ F1 + lk π p + o → c + 1 + lk π o ≤ F2 + lk π p + o → ∀ (sT sB : Int) (α : pm_T), wk π F1 false o (lk π p) sT sB α = wk π F2 false o (lk π p) sT sB α
theorem wk_fuel {π : pm_T} {b : Bool} {d x y : Nat} (H : RG π b d x y) : (b = true → Ft π x y) ∧ (b = false → Ff π x y) := by
  induction H using RG.rc with
  | nil d x =>
    refine ⟨fun _ F1 F2 h1 h2 sT sB α => ?_, fun w => by cases w⟩
    obtain ⟨f1, rfl⟩ : ∃ f, F1 = f + 1 := ⟨F1 - 1, by omega⟩
    obtain ⟨f2, rfl⟩ : ∃ f, F2 = f + 1 := ⟨F2 - 1, by omega⟩
    rw [wk, wk, if_pos (Nat.le_refl _), if_pos (Nat.le_refl _)]
  | @ev d x y h r ih =>
    refine ⟨fun _ F1 F2 h1 h2 sT sB α => ?_, fun w => by cases w⟩
    have := (RG_le r).1
    obtain ⟨f1, rfl⟩ : ∃ f, F1 = f + 1 := ⟨F1 - 1, by omega⟩
    obtain ⟨f2, rfl⟩ : ∃ f, F2 = f + 1 := ⟨F2 - 1, by omega⟩
    have e : ∀ f, wk π (f + 1) true x y sT sB α = wk π f true (x + 1) y sT sB (wk_ev π x sT sB (wk_st α)) := fun f => by rw [wk, if_neg (by omega), if_neg (by omega), if_neg (by omega), if_neg (by omega), if_pos h]
    rw [e, e]
    exact ih.1 rfl f1 f2 (by omega) (by omega) _ _ _
  | @ln d x y h r ih =>
    refine ⟨fun _ F1 F2 h1 h2 sT sB α => ?_, fun w => by cases w⟩
    have := (RG_le r).1
    obtain ⟨f1, rfl⟩ : ∃ f, F1 = f + 1 := ⟨F1 - 1, by omega⟩
    obtain ⟨f2, rfl⟩ : ∃ f, F2 = f + 1 := ⟨F2 - 1, by omega⟩
    have e : ∀ f, wk π (f + 1) true x y sT sB α = wk π f true (x + 1) y sT sB (wk_ln (wk_st α)) := fun f => by rw [wk, if_neg (by omega), if_neg (by omega), if_neg (by omega), if_pos h]
    rw [e, e]
    exact ih.1 rfl f1 f2 (by omega) (by omega) _ _ _
  | @st d x y h hl hk r r2 ih i2 =>
    refine ⟨fun _ F1 F2 h1 h2 sT sB α => ?_, fun w => by cases w⟩
    have := (RG_le r2).1
    obtain ⟨f1, rfl⟩ : ∃ f, F1 = f + 1 := ⟨F1 - 1, by omega⟩
    obtain ⟨f2, rfl⟩ : ∃ f, F2 = f + 1 := ⟨F2 - 1, by omega⟩
    have e : ∀ f, wk π (f + 1) true x y sT sB α = wk π f true (lk π x + 1) y sT sB (wk π f true (x + 1) (lk π x) (sT * π 3 x) (sB * π 2 x) (wk_st α)) := fun f => by rw [wk, if_neg (by omega), if_neg (by omega), if_pos h]
    rw [e, e]
    rw [ih.1 rfl f1 f2 (by omega) (by omega)]
    exact i2.1 rfl f1 f2 (by omega) (by omega) _ _ _
  | @rp d x c y h r r2 ih i2 =>
    refine ⟨fun _ F1 F2 h1 h2 sT sB α => ?_, fun w => by cases w⟩
    have e1 := (RG_le r).2 rfl
    have e2 := (RG_le r2).1
    obtain ⟨o1, o2, -, oc⟩ := RG_1 r
    obtain ⟨f1, rfl⟩ : ∃ f, F1 = f + 1 := ⟨F1 - 1, by omega⟩
    obtain ⟨f2, rfl⟩ : ∃ f, F2 = f + 1 := ⟨F2 - 1, by omega⟩
    obtain ⟨j1, j2⟩ := ih.2 rfl
    have e : ∀ f, c ≤ f + x → wk π (f + 1) true x y sT sB α = wk π f true (c + 1) y sT sB (if π 1 (lk π x) = 58 then wk π f false x (lk π x) sT sB (wk_st α) else wk π f true (x + 1) (lk π x) sT sB (wk_st (wk π f true (x + 1) (lk π x) sT sB (wk_st (wk_st α))))) := fun f hf => by rw [wk, if_neg (by omega), if_pos h, cls_ok r rfl f hf]
    rw [e f1 (by omega), e f2 (by omega)]
    have e3 : (if π 1 (lk π x) = 58 then wk π f1 false x (lk π x) sT sB (wk_st α) else wk π f1 true (x + 1) (lk π x) sT sB (wk_st (wk π f1 true (x + 1) (lk π x) sT sB (wk_st (wk_st α))))) = (if π 1 (lk π x) = 58 then wk π f2 false x (lk π x) sT sB (wk_st α) else wk π f2 true (x + 1) (lk π x) sT sB (wk_st (wk π f2 true (x + 1) (lk π x) sT sB (wk_st (wk_st α))))) := by
      split
      · exact j2 x o1 j1 f1 f2 (by omega) (by omega) _ _ _
      · rw [j1 f1 f2 (by omega) (by omega), j1 f1 f2 (by omega) (by omega)]
    rw [e3]
    exact i2.1 rfl f1 f2 (by omega) (by omega) _ _ _
  | @m1 d p h hk r ih =>
    refine ⟨fun w => (by cases w), fun _ => ⟨ih.1 rfl, fun o ho hs F1 F2 h1 h2 sT sB α => ?_⟩⟩
    have e : ∀ F, wk π F false o (lk π p) sT sB α = α := by
      intro F
      cases F with
      | zero => rw [wk]
      | succ f => rw [wk, if_neg (by omega)]
    rw [e, e]
  | @m2 d p c h hk r r2 ih i2 =>
    refine ⟨fun w => (by cases w), fun _ => ⟨ih.1 rfl, fun o ho hs F1 F2 h1 h2 sT sB α => ?_⟩⟩
    obtain ⟨k1, k2⟩ := i2.2 rfl
    obtain ⟨o1, o2, -, -⟩ := RG_1 r2
    obtain ⟨f1, rfl⟩ : ∃ f, F1 = f + 1 := ⟨F1 - 1, by omega⟩
    obtain ⟨f2, rfl⟩ : ∃ f, F2 = f + 1 := ⟨F2 - 1, by omega⟩
    have e : ∀ f, wk π (f + 1) false o (lk π p) sT sB α = wk π f false o (lk π (lk π p)) sT sB (wk π f true (lk π p + 1) (lk π (lk π p)) sT sB (wk π f true (o + 1) (lk π o) sT sB (wk_st α))) := fun f => by rw [wk, if_pos hk]
    rw [e, e, hs f1 f2 (by omega) (by omega), k1 f1 f2 (by omega) (by omega)]
    exact k2 o ho hs f1 f2 (by omega) (by omega) _ _ _
theorem wt_nil {π : pm_T} {x : Nat} {sT sB : Int} {α : pm_T} : wt π x x sT sB α = α := by
  unfold wt; rw [wk, if_pos (Nat.le_refl _)]
theorem wt_ev {π : pm_T} {d x y : Nat} {sT sB : Int} {α : pm_T} (h : π 1 x = 256) (r : RG π true d (x + 1) y) (hy : y ≤ 4000) : wt π x y sT sB α = wt π (x + 1) y sT sB (wk_ev π x sT sB (wk_st α)) := by
  have := (RG_le r).1
  unfold wt
  rw [wk, if_neg (by omega), if_neg (by omega), if_neg (by omega), if_neg (by omega), if_pos h]
  exact (wk_fuel r).1 rfl _ _ (by omega) (by omega) _ _ _
theorem wt_ln {π : pm_T} {d x y : Nat} {sT sB : Int} {α : pm_T} (h : π 1 x = 124) (r : RG π true d (x + 1) y) (hy : y ≤ 4000) : wt π x y sT sB α = wt π (x + 1) y sT sB (wk_ln (wk_st α)) := by
  have := (RG_le r).1
  unfold wt
  rw [wk, if_neg (by omega), if_neg (by omega), if_neg (by omega), if_pos h]
  exact (wk_fuel r).1 rfl _ _ (by omega) (by omega) _ _ _
theorem wt_st {π : pm_T} {d d' x y : Nat} {sT sB : Int} {α : pm_T} (h : π 1 x = 123) (hl : x < lk π x) (r : RG π true d' (x + 1) (lk π x)) (r2 : RG π true d (lk π x + 1) y) (hy : y ≤ 4000) : wt π x y sT sB α = wt π (lk π x + 1) y sT sB (wt π (x + 1) (lk π x) (sT * π 3 x) (sB * π 2 x) (wk_st α)) := by
  have := (RG_le r2).1
  unfold wt
  rw [wk, if_neg (by omega), if_neg (by omega), if_pos h]
  rw [(wk_fuel r).1 rfl 4999 5000 (by omega) (by omega)]
  exact (wk_fuel r2).1 rfl _ _ (by omega) (by omega) _ _ _
theorem wt_rp {π : pm_T} {d d' x c y : Nat} {sT sB : Int} {α : pm_T} (h : π 1 x = 91) (r : RG π false d' x c) (r2 : RG π true d (c + 1) y) (hy : y ≤ 4000) : wt π x y sT sB α = wt π (c + 1) y sT sB (if π 1 (lk π x) = 58 then wf π x (lk π x) sT sB (wk_st α) else wt π (x + 1) (lk π x) sT sB (wk_st (wt π (x + 1) (lk π x) sT sB (wk_st (wk_st α))))) := by
  have e1 := (RG_le r).2 rfl
  have e2 := (RG_le r2).1
  obtain ⟨o1, o2, -, -⟩ := RG_1 r
  obtain ⟨j1, j2⟩ := (wk_fuel r).2 rfl
  unfold wt wf
  rw [wk, if_neg (by omega), if_pos h, cls_ok r rfl 4999 (by omega)]
  rw [j2 x o1 j1 4999 5000 (by omega) (by omega), j1 4999 5000 (by omega) (by omega), j1 4999 5000 (by omega) (by omega)]
  exact (wk_fuel r2).1 rfl _ _ (by omega) (by omega) _ _ _
theorem wf_c {π : pm_T} {d o p c : Nat} {sT sB : Int} {α : pm_T} (ho : o < lk π o) (r0 : RG π true d (o + 1) (lk π o)) (h : π 1 p = 58) (r : RG π false d p c) (hc : c ≤ 2000) (hop : lk π o ≤ p) : wf π o p sT sB α = wf π o (lk π p) sT sB (wt π (p + 1) (lk π p) sT sB (wt π (o + 1) (lk π o) sT sB (wk_st α))) := by
  have e1 := (RG_le r).2 rfl
  obtain ⟨o1, o2, -, -⟩ := RG_1 r
  obtain ⟨j1, j2⟩ := (wk_fuel r).2 rfl
  have j0 := (wk_fuel r0).1 rfl
  unfold wt wf
  have e : ∀ f, wk π (f + 1) false o p sT sB α = wk π f false o (lk π p) sT sB (wk π f true (p + 1) (lk π p) sT sB (wk π f true (o + 1) (lk π o) sT sB (wk_st α))) := fun f => by rw [wk, if_pos h]
  show wk π (4999 + 1) false o p sT sB α = _
  rw [e, j0 4999 5000 (by omega) (by omega), j1 4999 5000 (by omega) (by omega)]
  exact j2 o ho j0 4999 5000 (by omega) (by omega) _ _ _
theorem wf_e {π : pm_T} {o p : Nat} {sT sB : Int} {α : pm_T} (h : ¬ π 1 p = 58) : wf π o p sT sB α = α := by
  unfold wf; rw [wk, if_neg h]
theorem wk_ev_m {π : pm_T} {j : Nat} {sT sB : Int} {α : pm_T} {c : Nat} (hc : c = 0 ∨ c = 1 ∨ c = 2) : α 0 c ≤ wk_ev π j sT sB α 0 c := by
  have key : wk_ev π j sT sB α 0 c = up2 α 0 1 (α 0 1 + 1) 0 c := by
    unfold wk_ev
    dsimp only
    split
    · split
      · rw [up2_o (by omega), up2_o (by omega), up2_o (by omega), up2_o (by omega), up2_o (by omega), up2_o (by omega), up2_o (by omega)]
      · rw [up2_o (by omega), up2_o (by omega), up2_o (by omega), up2_o (by omega), up2_o (by omega), up2_o (by omega), up2_o (by omega), up2_o (by omega), up2_o (by omega)]
    · rfl
  rw [key]
  by_cases q : c = 1
  · subst q; rw [up2_at]; omega
  · rw [up2_o (by omega)]; exact Int.le_refl _
theorem wk_ln_m {α : pm_T} {c : Nat} (hc : c = 0 ∨ c = 1 ∨ c = 2) : α 0 c ≤ wk_ln α 0 c := by
  unfold wk_ln
  by_cases q : c = 2
  · subst q; rw [up2_at]; omega
  · rw [up2_o (by omega)]
    split
    · rw [up2_o (by omega)]; exact Int.le_refl _
    · exact Int.le_refl _
theorem wk_st_m {α : pm_T} {c : Nat} : α 0 c ≤ wk_st α 0 c := by
  by_cases q : c = 0
  · subst q; rw [wk_st_0]; omega
  · rw [wk_st_o (by omega)]; exact Int.le_refl _
theorem wk_m {π : pm_T} {c : Nat} (hc : c = 0 ∨ c = 1 ∨ c = 2) : ∀ (f : Nat) (b : Bool) (x y : Nat) (sT sB : Int) (α : pm_T), α 0 c ≤ wk π f b x y sT sB α 0 c
  | 0, _, _, _, _, _, _ => by rw [wk]; exact Int.le_refl _
  | f + 1, true, x, y, sT, sB, α => by
    rw [wk]
    split
    · exact Int.le_refl _
    split
    · refine Int.le_trans ?_ (wk_m hc f true _ y sT sB _)
      split
      · exact Int.le_trans wk_st_m (wk_m hc f false x _ sT sB _)
      · refine Int.le_trans ?_ (wk_m hc f true (x + 1) _ sT sB _)
        refine Int.le_trans ?_ wk_st_m
        refine Int.le_trans ?_ (wk_m hc f true (x + 1) _ sT sB _)
        exact Int.le_trans wk_st_m wk_st_m
    split
    · refine Int.le_trans ?_ (wk_m hc f true _ y sT sB _)
      exact Int.le_trans wk_st_m (wk_m hc f true (x + 1) _ _ _ _)
    split
    · refine Int.le_trans ?_ (wk_m hc f true _ y sT sB _)
      exact Int.le_trans wk_st_m (wk_ln_m hc)
    split
    · refine Int.le_trans ?_ (wk_m hc f true _ y sT sB _)
      exact Int.le_trans wk_st_m (wk_ev_m hc)
    · exact Int.le_trans wk_st_m (wk_m hc f true _ y sT sB _)
  | f + 1, false, x, y, sT, sB, α => by
    rw [wk]
    split
    · refine Int.le_trans ?_ (wk_m hc f false x _ sT sB _)
      refine Int.le_trans ?_ (wk_m hc f true (y + 1) _ sT sB _)
      exact Int.le_trans wk_st_m (wk_m hc f true (x + 1) _ sT sB _)
    · exact Int.le_refl _
/-- a bracket that is being walked: where it stands, its turn (0: a {), whether behind a mark, where the run around it ends, the scale there -/
abbrev fm_T : Type := Nat × Nat × Bool × Nat × Int × Int
def cl (π : pm_T) (p : Nat) : Nat := cls π 5000 (lk π p)
/-- what is left of a [ when a stretch of it ends -/
def rst (π : pm_T) (p i : Nat) (e : Bool) (sT sB : Int) (α : pm_T) : pm_T :=
  if π 1 (lk π p) = 58 then wf π p (mkn π p (i + 1)) sT sB (if e = true then α else wt π (mkn π p i + 1) (mkn π p (i + 1)) sT sB α)
  else if i = 1 then wt π (p + 1) (lk π p) sT sB (wk_st α) else α
def fin (π : pm_T) : List fm_T → pm_T → pm_T
  | [], α => α
  | (p, 0, _, y, sT, sB) :: L, α => fin π L (wt π (lk π p + 1) y sT sB α)
  | (p, i + 1, e, y, sT, sB) :: L, α => fin π L (wt π (cl π p + 1) y sT sB (rst π p (i + 1) e sT sB α))
theorem fin_0 {π : pm_T} {p y : Nat} {e : Bool} {sT sB : Int} {L : List fm_T} {α : pm_T} : fin π ((p, 0, e, y, sT, sB) :: L) α = fin π L (wt π (lk π p + 1) y sT sB α) := by rw [fin]
theorem fin_s {π : pm_T} {p i y : Nat} {e : Bool} {sT sB : Int} {L : List fm_T} {α : pm_T} : fin π ((p, i + 1, e, y, sT, sB) :: L) α = fin π L (wt π (cl π p + 1) y sT sB (rst π p (i + 1) e sT sB α)) := by rw [fin]
theorem walk_wt {π : pm_T} : walk π = wt π 0 (sz π) 1 1 wk0 := by unfold walk wt; exact Eq.refl _
theorem fin_m {π : pm_T} {c : Nat} (hc : c = 0 ∨ c = 1 ∨ c = 2) : ∀ (L : List fm_T) (α : pm_T), α 0 c ≤ fin π L α 0 c
  | [], _ => Int.le_refl _
  | (p, 0, _, y, sT, sB) :: L, α => by
    rw [fin_0]; unfold wt
    exact Int.le_trans (wk_m hc 5000 true _ _ _ _ _) (fin_m hc L _)
  | (p, i + 1, e, y, sT, sB) :: L, α => by
    rw [fin_s]
    refine Int.le_trans ?_ (fin_m hc L _)
    unfold wt rst wt wf
    refine Int.le_trans ?_ (wk_m hc 5000 true _ _ _ _ _)
    split
    · refine Int.le_trans ?_ (wk_m hc 5000 false _ _ _ _ _)
      split
      · exact Int.le_refl _
      · exact wk_m hc 5000 true _ _ _ _ _
    split
    · exact Int.le_trans wk_st_m (wk_m hc 5000 true _ _ _ _ _)
    · exact Int.le_refl _
/-- how the brackets being walked stand around a run that ends at Y -/
def FWp (π : pm_T) : List fm_T → Nat → Nat → Int → Int → Prop
  | [], Y, d, sT, sB => Y = sz π ∧ d = 7 ∧ sT = 1 ∧ sB = 1
  | (p, i, e, y, uT, uB) :: L, Y, d, sT, sB => (p < Y ∧ Y < y) ∧
    (i = 0 → π 1 p = 123 ∧ Y = lk π p ∧ π 1 Y = 125 ∧ sT = uT * π 3 p ∧ sB = uB * π 2 p ∧ RG π true (d + 1) (Y + 1) y) ∧
    (1 ≤ i → π 1 p = 91 ∧ sT = uT ∧ sB = uB ∧ (∃ c, RG π false d p c ∧ RG π true (d + 1) (c + 1) y ∧ (π 1 (lk π p) = 58 → RG π false d (mkn π p i) c ∧ π 1 (mkn π p i) = 58)) ∧
      (e = false → Y = lk π p) ∧ (e = true → π 1 (lk π p) = 58 ∧ Y = mkn π p (i + 1)) ∧ (¬ π 1 (lk π p) = 58 → i ≤ 2)) ∧
    FWp π L y (d + 1) uT uB
theorem FWp_le {π : pm_T} : ∀ (L : List fm_T) (Y d : Nat) (sT sB : Int), FWp π L Y d sT sB → Y ≤ sz π ∧ (L ≠ [] → Y < sz π) ∧ d + L.length = 7
  | [], Y, d, sT, sB, h => ⟨Nat.le_of_eq h.1, fun w => absurd rfl w, by have := h.2.1; simp; omega⟩
  | (p, i, e, y, uT, uB) :: L, Y, d, sT, sB, h => by
    obtain ⟨⟨h1, h2⟩, -, -, h3⟩ := h
    obtain ⟨a, b, c⟩ := FWp_le L y (d + 1) uT uB h3
    exact ⟨by omega, fun _ => by omega, by simp; omega⟩
theorem FWp_s {π : pm_T} (P : PW π) : ∀ (L : List fm_T) (Y d : Nat) (sT sB : Int), FWp π L Y d sT sB → (1 ≤ sT ∧ sT ≤ bq d) ∧ 1 ≤ sB ∧ sB ≤ bq d
  | [], Y, d, sT, sB, h => by
    obtain ⟨-, rfl, rfl, rfl⟩ := h
    exact ⟨⟨by decide, by decide⟩, by decide, by decide⟩
  | (p, i, e, y, uT, uB) :: L, Y, d, sT, sB, h => by
    have hle := FWp_le _ _ _ _ _ h
    obtain ⟨⟨h1, h2⟩, q0, q1, h3⟩ := h
    obtain ⟨⟨a1, a2⟩, b1, b2⟩ := FWp_s P L y (d + 1) uT uB h3
    have hl : d < 7 := by have := hle.2.2; simp at this; omega
    have bs := bq_s d hl
    have bu := bq_u (d + 1) (by omega)
    by_cases c : i = 0
    · obtain ⟨k1, -, -, k2, k3, -⟩ := q0 c
      have hp : (p : Int) < π 0 0 := by have := hle.1; unfold sz at this; have := P.1.1; omega
      obtain ⟨⟨v1, v2⟩, v3, v4⟩ := (P.2.2 p hp).2.2 k1
      rw [k2, k3, ← bs]
      exact ⟨⟨by have := Int.mul_le_mul a1 v3 (by decide) (by omega); omega, Int.mul_le_mul a2 v4 (by omega) (by omega)⟩, by have := Int.mul_le_mul b1 v1 (by decide) (by omega); omega, Int.mul_le_mul b2 v2 (by omega) (by omega)⟩
    · obtain ⟨-, k2, k3, -⟩ := q1 (by omega)
      rw [k2, k3]
      omega
def nTw : List fm_T → Nat
  | [] => 0
  | (_, i, _) :: L => if i = 0 then nTw L else nTw L + 1
theorem nTw_l : ∀ L : List fm_T, nTw L ≤ L.length
  | [] => Nat.le_refl _
  | (_, i, _) :: L => by
    have := nTw_l L
    show (if i = 0 then nTw L else nTw L + 1) ≤ L.length + 1
    split <;> omega
/-- the cells of the [ being walked -/
def CFh (π : pm_T) (h : ah_T) : List fm_T → Prop
  | [] => True
  | (p, i, e, _, _, _) :: L => (1 ≤ i → h.2.1 217 (nTw L) = (p : Int) ∧ h.2.1 218 (nTw L) = (i : Int) ∧ h.2.1 219 (nTw L) = (if π 1 (lk π p) = 58 then h.2.1 214 p else 2) ∧ h.2.1 220 (nTw L) = (if e = true then 1 else 0) ∧ (π 1 (lk π p) = 58 → (i : Int) ≤ h.2.1 214 p)) ∧ CFh π h L
theorem CFh_c {π : pm_T} {h h' : ah_T} : ∀ (L : List fm_T), CFh π h L → (∀ a k, 217 ≤ a → a ≤ 220 → k < nTw L → h'.2.1 a k = h.2.1 a k) → (∀ k, h'.2.1 214 k = h.2.1 214 k) → CFh π h' L
  | [], _, _, _ => trivial
  | (p, i, e, y, uT, uB) :: L, H, g, g2 => by
    obtain ⟨H1, H2⟩ := H
    have hn : nTw L ≤ nTw ((p, i, e, y, uT, uB) :: L) := by
      show nTw L ≤ (if i = 0 then nTw L else nTw L + 1)
      split <;> omega
    refine ⟨fun w => ?_, CFh_c L H2 (fun a k q1 q2 q3 => g a k q1 q2 (by omega)) g2⟩
    have hl : nTw L < nTw ((p, i, e, y, uT, uB) :: L) := by
      show nTw L < (if i = 0 then nTw L else nTw L + 1)
      rw [if_neg (by omega)]; omega
    rw [g _ _ (by decide) (by decide) hl, g _ _ (by decide) (by decide) hl, g _ _ (by decide) (by decide) hl, g _ _ (by decide) (by decide) hl, g2]
    exact H1 w

/-! ===== the WALK, reference: marks asked for ===== -/
theorem t_MD_closing {G : cx_T} {s p : Nat} {h : ah_T} {x : Int} (hb0 : hb s h) (hp : p < 2100) (hx : h.2.1 210 p = x) : con G 0 0 0 m_MD_closing [av_R (some 170), av_I (p : Int)] h (fun r h' => hb s h' ∧ h' = h ∧ r = some (av_I x)) := by
  refine c_MD_closing hb0 (fun _ => ?_)
  unfold B_MD_closing_0
  rw [tn_c]
  exact ⟨⟨by omega, by omega⟩, fun x2 e2 _ _ => ⟨hb0, rfl, by rw [e2, hx]⟩⟩
theorem t_MD_opening {G : cx_T} {s p : Nat} {h : ah_T} {x : Int} (hb0 : hb s h) (hp : p < 2100) (hx : h.2.1 210 p = x) : con G 0 0 0 m_MD_opening [av_R (some 170), av_I (p : Int)] h (fun r h' => hb s h' ∧ h' = h ∧ r = some (av_I x)) := by
  refine c_MD_opening hb0 (fun _ => ?_)
  unfold B_MD_opening_0
  rw [tn_c]
  exact ⟨⟨by omega, by omega⟩, fun x2 e2 _ _ => ⟨hb0, rfl, by rw [e2, hx]⟩⟩
theorem t_MD_colons {G : cx_T} {s p : Nat} {h : ah_T} {x : Int} (hb0 : hb s h) (hp : p < 2100) (hx : h.2.1 214 p = x) : con G 0 0 0 m_MD_colons [av_R (some 170), av_I (p : Int)] h (fun r h' => hb s h' ∧ h' = h ∧ r = some (av_I x)) := by
  refine c_MD_colons hb0 (fun _ => ?_)
  unfold B_MD_colons_0
  rw [tn_c]
  exact ⟨⟨by omega, by omega⟩, fun x2 e2 _ _ => ⟨hb0, rfl, by rw [e2, hx]⟩⟩
theorem t_MD_isIn {G : cx_T} {s t : Nat} {h : ah_T} {a x : Int} (hb0 : hb s h) (ht : h.2.1 170 70 = (t : Int) + 1) (ht2 : t < 10) (hx : h.2.1 220 t = x) (hx2 : x = 0 ∨ x = 1) : con G 0 0 0 m_MD_isIn [av_R (some 170), av_I a] h (fun r h' => hb s h' ∧ h' = h ∧ r = some (av_I x)) := by
  refine c_MD_isIn hb0 (fun _ => ?_)
  unfold B_MD_isIn_0
  intro x2 e2 _ _
  have et : (x2 - 1).toNat = t := by omega
  rw [et]
  exact ⟨⟨by omega, by omega⟩, ⟨by omega, by omega⟩, fun x4 e4 _ => ⟨by rw [e4, hx]; exact hx2, hb0, rfl, by rw [e4, hx]⟩⟩
theorem t_MD_behindColon {G : cx_T} {s : Nat} {h : ah_T} {π : pm_T} {ow : Nat → Nat} {p C i : Nat} (hb0 : hb s h) (H : MKc π h ow p C) (hz : sz π ≤ 2000) (hp : p < sz π) (hi : 1 ≤ i ∧ i ≤ C) : con G 0 0 0 m_MD_behindColon [av_R (some 170), av_I (p : Int), av_I (i : Int)] h (fun r h' => hb s h' ∧ h' = h ∧ r = some (av_I ((mkn π p i : Nat) + 1 : Int))) := by
  have hin : ∀ j, 1 ≤ j → j ≤ C → mkn π p j < sz π := by
    intro j h1 h2
    obtain ⟨k, rfl⟩ : ∃ k, j = k + 1 := ⟨j - 1, by omega⟩
    exact (H.2.1 k (by omega)).2.1
  have hCn := MKc_n H C (Nat.le_refl _)
  have hCz := hin C (by omega) (Nat.le_refl _)
  refine c_MD_behindColon (X10 := fun v3 v4 hh => hh = h ∧ ∃ j : Nat, v4 = (j : Int) ∧ 1 ≤ j ∧ j ≤ i ∧ v3 = (mkn π p j : Int)) ?_ hb0 (fun _ _ => ?_)
  · refine lp_MD_behindColon_10 (a1 := (p : Int)) (a2 := (i : Int)) _ (fun _ v4 _ => (i - v4).toNat) ?_
    rintro v3 v4 hh hb1 ⟨rfl, j, rfl, h1, h2, rfl⟩
    have hj := hin j h1 (by omega)
    unfold B_MD_behindColon_10
    refine ⟨fun c => ⟨⟨by omega, by omega⟩, hb1, rfl, ?_⟩, fun c => ⟨⟨by omega, by omega⟩, ?_⟩⟩
    · have : j = i := by omega
      rw [this]
    · rw [tn_c]
      intro x3 e3 _ _
      exact ⟨⟨by omega, by omega⟩, ⟨rfl, j + 1, by omega, by omega, by omega, e3.trans (H.2.2.2 j h1 (by omega))⟩, by omega⟩
  · unfold B_MD_behindColon_0
    rw [tn_c]
    exact ⟨⟨by omega, by omega⟩, fun x2 e2 _ _ => ⟨rfl, 1, rfl, Nat.le_refl _, hi.1, e2.trans (H.2.2.1 (by omega)).1⟩⟩
theorem t_MD_turned {G : cx_T} {s t p : Nat} {h : ah_T} {i n c x : Int} (hb0 : hb s h) (hp : p < 2100) (ht : h.2.1 170 70 = (t : Int) + 1) (ht2 : t < 10) (hi : h.2.1 218 t = i) (hn : h.2.1 219 t = n) (hc : h.2.1 210 p = c) (hc2 : 0 ≤ c ∧ c ≤ 2100) (hx : h.2.1 170 71 = x) (hx2 : 0 ≤ x ∧ x ≤ 3000) (hi2 : 0 ≤ i ∧ i ≤ 3000) : con G 1 0 0 m_MD_turned [av_R (some 170), av_I (p : Int)] h (fun r h' => hb s h' ∧
    ((n ≤ i ∧ r = some (av_I (c + 1)) ∧ fr (fun a k => (a = 220 ∧ k = t) ∨ (a = 170 ∧ k = 70)) h h' ∧ h'.2.1 170 70 = (t : Int)) ∨
     (¬ n ≤ i ∧ r = some (av_I ((p : Int) + 1)) ∧ fr (fun a k => ((a = 218 ∨ a = 220) ∧ k = t) ∨ (a = 170 ∧ k = 71)) h h' ∧ h'.2.1 220 t = 0 ∧ h'.2.1 218 t = i + 1 ∧ h'.2.1 170 71 = x + 1 ∧ ∃ h1, fr (fun a k => (a = 218 ∨ a = 220) ∧ k = t) h h1 ∧ h' = st_i h1 170 71 (x + 1)))) := by
  refine c_MD_turned hb0 (fun _ => ?_)
  unfold B_MD_turned_0
  intro x2 e2 _ _
  have et : (x2 - 1).toNat = t := by omega
  rw [et]
  refine ⟨⟨by omega, by omega⟩, ⟨by omega, by omega⟩, fun h5 e5 x9 e9 _ _ x12 e12 _ _ => ?_⟩
  have ex9 : x9 = i := by rw [e9, mm_i e5 (by omega)]; exact hi
  have ex12 : x12 = n := by rw [e12, mm_i e5 (by omega)]; exact hn
  subst ex9 ex12
  refine ⟨fun d h14 e14 => ?_, fun d => ⟨⟨by omega, by omega⟩, fun h24 e24 x26 e26 _ _ => ?_⟩⟩
  · refine con_mono (t_MD_closing (x := c) (hb_i (hb_i hb0 e5) e14) hp (by rw [mm_i e14 (by omega), mm_i e5 (by omega)]; exact hc)) ?_
    rintro r h16 ⟨hb16, rfl, rfl⟩
    exact ⟨c, rfl, hb16, ⟨by omega, by omega⟩, hb16, Or.inl ⟨d, rfl, fr_i (fr_i fr_0 e5 (Or.inl ⟨rfl, rfl⟩)) e14 (Or.inr ⟨rfl, rfl⟩), by rw [mv_i e14]; omega⟩⟩
  · have ex26 : x26 = x := by rw [e26, mm_i e24 (by omega), mm_i e5 (by omega)]; exact hx
    subst ex26
    refine ⟨⟨by omega, by omega⟩, fun h28 e28 => ⟨⟨by omega, by omega⟩, hb_i (hb_i (hb_i hb0 e5) e24) e28, Or.inr ⟨d, rfl, fr_i (fr_i (fr_i fr_0 e5 (Or.inl ⟨Or.inr rfl, rfl⟩)) e24 (Or.inl ⟨Or.inl rfl, rfl⟩)) e28 (Or.inr ⟨rfl, rfl⟩), ?_, ?_, mv_i e28, h24, fr_i (fr_i fr_0 e5 ⟨Or.inr rfl, rfl⟩) e24 ⟨Or.inl rfl, rfl⟩, e28⟩⟩⟩
    · rw [mm_i e28 (by omega), mm_i e24 (by omega), mv_i e5]
    · rw [mm_i e28 (by omega), mv_i e24]
