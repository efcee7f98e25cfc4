/-! ===== parts of a voice: how brackets stand ===== -/
def RGc (π : pm_T) (P : Bool → Nat → Nat → Nat → Prop) : Prop :=
  (∀ d x : Nat, P true d x x) ∧
  (∀ d x y : Nat, π 1 x = 256 → P true d (x + 1) y → P true d x y) ∧
  (∀ d x y : Nat, π 1 x = 124 → P true d (x + 1) y → P true d x y) ∧
  (∀ d x y : Nat, π 1 x = 123 → x < lk π x → π 1 (lk π x) = 125 → P true d (x + 1) (lk π x) → P true (d + 1) (lk π x + 1) y → P true (d + 1) x y) ∧
  (∀ d x c y : Nat, π 1 x = 91 → P false d x c → P true (d + 1) (c + 1) y → P true (d + 1) x y) ∧
  (∀ d p : Nat, p < lk π p → π 1 (lk π p) = 93 → P true d (p + 1) (lk π p) → P false d p (lk π p)) ∧
  (∀ d p c : Nat, p < lk π p → π 1 (lk π p) = 58 → P true d (p + 1) (lk π p) → P false d (lk π p) c → P false d p c)
/-- the least that is closed under these -/
def RG (π : pm_T) (b : Bool) (d x y : Nat) : Prop := ∀ P : Bool → Nat → Nat → Nat → Prop, RGc π P → P b d x y
theorem RG.nil {π : pm_T} (d x : Nat) : RG π true d x x := fun _ h => h.1 d x
theorem RG.ev {π : pm_T} {d x y : Nat} (h : π 1 x = 256) (r : RG π true d (x + 1) y) : RG π true d x y := fun P c => c.2.1 d x y h (r P c)
theorem RG.ln {π : pm_T} {d x y : Nat} (h : π 1 x = 124) (r : RG π true d (x + 1) y) : RG π true d x y := fun P c => c.2.2.1 d x y h (r P c)
theorem RG.st {π : pm_T} {d x y : Nat} (h : π 1 x = 123) (hl : x < lk π x) (hk : π 1 (lk π x) = 125) (r : RG π true d (x + 1) (lk π x)) (r2 : RG π true (d + 1) (lk π x + 1) y) : RG π true (d + 1) x y := fun P c => c.2.2.2.1 d x y h hl hk (r P c) (r2 P c)
theorem RG.rp {π : pm_T} {d x c y : Nat} (h : π 1 x = 91) (r : RG π false d x c) (r2 : RG π true (d + 1) (c + 1) y) : RG π true (d + 1) x y := fun P q => q.2.2.2.2.1 d x c y h (r P q) (r2 P q)
theorem RG.m1 {π : pm_T} {d p : Nat} (h : p < lk π p) (hk : π 1 (lk π p) = 93) (r : RG π true d (p + 1) (lk π p)) : RG π false d p (lk π p) := fun P c => c.2.2.2.2.2.1 d p h hk (r P c)
theorem RG.m2 {π : pm_T} {d p c : Nat} (h : p < lk π p) (hk : π 1 (lk π p) = 58) (r : RG π true d (p + 1) (lk π p)) (r2 : RG π false d (lk π p) c) : RG π false d p c := fun P q => q.2.2.2.2.2.2 d p c h hk (r P q) (r2 P q)
theorem RG.rc {π : pm_T} {motive : ∀ (b : Bool) (d x y : Nat), RG π b d x y → Prop}
    (nil : ∀ d x : Nat, motive true d x x (RG.nil d x))
    (ev : ∀ {d x y : Nat} (h : π 1 x = 256) (r : RG π true d (x + 1) y), motive true d (x + 1) y r → motive true d x y (RG.ev h r))
    (ln : ∀ {d x y : Nat} (h : π 1 x = 124) (r : RG π true d (x + 1) y), motive true d (x + 1) y r → motive true d x y (RG.ln h r))
    (st : ∀ {d x y : Nat} (h : π 1 x = 123) (hl : x < lk π x) (hk : π 1 (lk π x) = 125) (r : RG π true d (x + 1) (lk π x)) (r2 : RG π true (d + 1) (lk π x + 1) y), motive true d (x + 1) (lk π x) r → motive true (d + 1) (lk π x + 1) y r2 → motive true (d + 1) x y (RG.st h hl hk r r2))
    (rp : ∀ {d x c y : Nat} (h : π 1 x = 91) (r : RG π false d x c) (r2 : RG π true (d + 1) (c + 1) y), motive false d x c r → motive true (d + 1) (c + 1) y r2 → motive true (d + 1) x y (RG.rp h r r2))
    (m1 : ∀ {d p : Nat} (h : p < lk π p) (hk : π 1 (lk π p) = 93) (r : RG π true d (p + 1) (lk π p)), motive true d (p + 1) (lk π p) r → motive false d p (lk π p) (RG.m1 h hk r))
    (m2 : ∀ {d p c : Nat} (h : p < lk π p) (hk : π 1 (lk π p) = 58) (r : RG π true d (p + 1) (lk π p)) (r2 : RG π false d (lk π p) c), motive true d (p + 1) (lk π p) r → motive false d (lk π p) c r2 → motive false d p c (RG.m2 h hk r r2))
    {b : Bool} {d x y : Nat} (H : RG π b d x y) : motive b d x y H := by
  obtain ⟨_, q⟩ := H (fun b d x y => ∃ H : RG π b d x y, motive b d x y H) ⟨fun d x => ⟨_, nil d x⟩, fun d x y h ⟨r, i⟩ => ⟨_, ev h r i⟩, fun d x y h ⟨r, i⟩ => ⟨_, ln h r i⟩, fun d x y h hl hk ⟨r, i⟩ ⟨r2, i2⟩ => ⟨_, st h hl hk r r2 i i2⟩, fun d x c y h ⟨r, i⟩ ⟨r2, i2⟩ => ⟨_, rp h r r2 i i2⟩, fun d p h hk ⟨r, i⟩ => ⟨_, m1 h hk r i⟩, fun d p c h hk ⟨r, i⟩ ⟨r2, i2⟩ => ⟨_, m2 h hk r r2 i i2⟩⟩
  exact q
theorem RG_le {π : pm_T} {b : Bool} {d x y : Nat} (H : RG π b d x y) : x ≤ y ∧ (b = false → x < y) := by
  induction H using RG.rc with
  | nil d x => exact ⟨Nat.le_refl _, fun q => by cases q⟩
  | ev _ _ ih => exact ⟨by omega, fun q => by cases q⟩
  | ln _ _ ih => exact ⟨by omega, fun q => by cases q⟩
  | st _ _ _ _ _ _ ih => exact ⟨by omega, fun q => by cases q⟩
  | rp _ _ _ i1 ih => exact ⟨by have := i1.1; omega, fun q => by cases q⟩
  | m1 h _ _ _ => exact ⟨by omega, fun _ => h⟩
  | m2 h _ _ _ _ ih => exact ⟨by have := ih.1; omega, fun _ => by have := ih.1; omega⟩
theorem RG_c {π π' : pm_T} {b : Bool} {d x y : Nat} (H : RG π b d x y) : (∀ j, x ≤ j → j < y → π' 1 j = π 1 j ∧ π' 14 j = π 14 j) → (b = false → π' 1 y = π 1 y) → RG π' b d x y := by
  induction H using RG.rc with
  | nil d x => intro _ _; exact RG.nil d x
  | ev h r ih =>
    intro q _
    have := (RG_le r).1
    exact RG.ev ((q _ (Nat.le_refl _) (by omega)).1.trans h) (ih (fun j a c => q j (by omega) c) (fun w => by cases w))
  | ln h r ih =>
    intro q _
    have := (RG_le r).1
    exact RG.ln ((q _ (Nat.le_refl _) (by omega)).1.trans h) (ih (fun j a c => q j (by omega) c) (fun w => by cases w))
  | @st d x y h hl hk r1 r2 i1 i2 =>
    intro q _
    have := (RG_le r2).1
    have el : lk π' x = lk π x := by unfold lk; rw [(q x (Nat.le_refl _) (by omega)).2]
    refine RG.st ((q _ (Nat.le_refl _) (by omega)).1.trans h) (by omega) (by rw [el, (q _ (by omega) (by omega)).1]; exact hk) ?_ ?_
    · rw [el]; exact i1 (fun j a c => q j (by omega) (by omega)) (fun w => by cases w)
    · rw [el]; exact i2 (fun j a c => q j (by omega) c) (fun w => by cases w)
  | @rp d x c y h r1 r2 i1 i2 =>
    intro q _
    have e1 := (RG_le r1).2 rfl
    have e2 := (RG_le r2).1
    exact RG.rp ((q _ (Nat.le_refl _) (by omega)).1.trans h) (i1 (fun j a c => q j a (by omega)) (fun _ => (q _ (by omega) (by omega)).1)) (i2 (fun j a c => q j (by omega) c) (fun w => by cases w))
  | @m1 d p h hk r ih =>
    intro q q2
    have el : lk π' p = lk π p := by unfold lk; rw [(q p (Nat.le_refl _) h).2]
    have := RG.m1 (π := π') (d := d) (p := p) (by omega) (by rw [el, q2 rfl]; exact hk) (by rw [el]; exact ih (fun j a c => q j (by omega) c) (fun w => by cases w))
    rw [el] at this; exact this
  | @m2 d p c h hk r r2 ih i2 =>
    intro q q2
    have e2 := (RG_le r2).2 rfl
    have el : lk π' p = lk π p := by unfold lk; rw [(q p (Nat.le_refl _) (by omega)).2]
    exact RG.m2 (by omega) (by rw [el, (q _ (by omega) e2).1]; exact hk) (by rw [el]; exact ih (fun j a c => q j (by omega) (by omega)) (fun w => by cases w)) (by rw [el]; exact i2 (fun j a c => q j (by omega) c) q2)
theorem RG_app {π : pm_T} {b : Bool} {d x y : Nat} (H : RG π b d x y) : b = true → ∀ z, RG π true d y z → RG π true d x z := by
  induction H using RG.rc with
  | nil d x => intro _ z r; exact r
  | ev h _ ih => intro _ z r; exact RG.ev h (ih rfl z r)
  | ln h _ ih => intro _ z r; exact RG.ln h (ih rfl z r)
  | st h hl hk r1 _ _ i2 => intro _ z r; exact RG.st h hl hk r1 (i2 rfl z r)
  | rp h r1 _ _ i2 => intro _ z r; exact RG.rp h r1 (i2 rfl z r)
  | m1 _ _ _ _ => intro w; cases w
  | m2 _ _ _ _ _ _ => intro w; cases w
/-- the marks of a [ so far -/
def PCh (π : pm_T) (d o l : Nat) : Prop := ∀ P : Nat → Prop, P o ∧ (∀ l, P l → l < lk π l → π 1 (lk π l) = 58 → RG π true d (l + 1) (lk π l) → P (lk π l)) → P l
theorem PCh.nil {π : pm_T} {d o : Nat} : PCh π d o o := fun _ h => h.1
theorem PCh.step {π : pm_T} {d o l : Nat} (r : PCh π d o l) (h : l < lk π l) (hk : π 1 (lk π l) = 58) (rg : RG π true d (l + 1) (lk π l)) : PCh π d o (lk π l) := fun P c => c.2 l (r P c) h hk rg
theorem PCh.rc {π : pm_T} {d o : Nat} {motive : ∀ l : Nat, PCh π d o l → Prop} (nil : motive o PCh.nil)
    (step : ∀ {l : Nat} (r : PCh π d o l) (h : l < lk π l) (hk : π 1 (lk π l) = 58) (rg : RG π true d (l + 1) (lk π l)), motive l r → motive (lk π l) (PCh.step r h hk rg)) {l : Nat} (H : PCh π d o l) : motive l H := by
  obtain ⟨_, q⟩ := H (fun l => ∃ H : PCh π d o l, motive l H) ⟨⟨_, nil⟩, fun l ⟨r, i⟩ h hk rg => ⟨_, step r h hk rg i⟩⟩
  exact q
theorem PCh_le {π : pm_T} {d o l : Nat} (H : PCh π d o l) : o ≤ l := by
  induction H using PCh.rc with
  | nil => exact Nat.le_refl _
  | step _ h _ _ ih => omega
theorem PCh_c {π π' : pm_T} {d o l : Nat} (H : PCh π d o l) : (∀ j, o ≤ j → j < l → π' 1 j = π 1 j ∧ π' 14 j = π 14 j) → π' 1 l = π 1 l → PCh π' d o l := by
  induction H using PCh.rc with
  | nil => intro _ _; exact PCh.nil
  | @step l r h hk rg ih =>
    intro q q2
    have := PCh_le r
    have el : lk π' l = lk π l := by unfold lk; rw [(q l this h).2]
    have := PCh.step (ih (fun j a c => q j a (by omega)) (q l this h).1) (by omega) (by rw [el, q2]; exact hk) (by rw [el]; exact RG_c rg (fun j a c => q j (by omega) c) (fun w => by cases w))
    rw [el] at this; exact this
theorem PCh_end {π : pm_T} {d o l : Nat} (H : PCh π d o l) : ∀ c, RG π false d l c → RG π false d o c := by
  induction H using PCh.rc with
  | nil => intro c r; exact r
  | step r h hk rg ih => intro c r2; exact ih c (RG.m2 h hk rg r2)
def oo (π : pm_T) (d : Nat) : Nat := (π 15 d).toNat
def ll (π : pm_T) (d : Nat) : Nat := (π 16 d).toNat
def ss (π : pm_T) : Nat → Nat
  | 0 => 0
  | d + 1 => ll π d + 1
def WBd (π : pm_T) (d : Nat) : Prop := (oo π d ≤ ll π d ∧ ll π d < sz π) ∧ ss π d ≤ oo π d ∧ RG π true (7 - d) (ss π d) (oo π d) ∧ ((π 1 (oo π d) = 91 ∧ PCh π (6 - d) (oo π d) (ll π d)) ∨ (π 1 (oo π d) = 123 ∧ ll π d = oo π d))
/-- the brackets of the parts so far -/
def WBp (π : pm_T) : Prop := (∀ d, d < dp π → WBd π d) ∧ ss π (dp π) ≤ sz π ∧ RG π true (7 - dp π) (ss π (dp π)) (sz π)
theorem ss_c {π π' : pm_T} {d : Nat} (h : ∀ e, e < d → π' 16 e = π 16 e) : ss π' d = ss π d := by
  cases d with
  | zero => rfl
  | succ d => show ll π' d + 1 = ll π d + 1; unfold ll; rw [h d (by omega)]
/-- a level, where what changes stands behind it -/
theorem WBd_c {π π' : pm_T} {d : Nat} (H : WBd π d) (h15 : π' 15 d = π 15 d) (h16 : ∀ e, e ≤ d → π' 16 e = π 16 e) (hz : sz π ≤ sz π') (q : ∀ j, j < ll π d → π' 1 j = π 1 j ∧ π' 14 j = π 14 j) (q2 : ∀ j, j < sz π → π' 1 j = π 1 j) : WBd π' d := by
  obtain ⟨⟨a1, a2⟩, a3, a4, a5⟩ := H
  have eo : oo π' d = oo π d := by unfold oo; rw [h15]
  have el : ll π' d = ll π d := by unfold ll; rw [h16 d (Nat.le_refl _)]
  have es : ss π' d = ss π d := ss_c (fun e he => h16 e (by omega))
  unfold WBd
  rw [eo, el, es]
  refine ⟨⟨a1, by omega⟩, a3, RG_c a4 (fun j _ c => q j (by omega)) (fun w => by cases w), ?_⟩
  rw [q2 _ (by omega)]
  rcases a5 with ⟨b1, b2⟩ | b
  · exact Or.inl ⟨b1, PCh_c b2 (fun j _ c => q j c) (q2 _ a2)⟩
  · exact Or.inr b
theorem ll_mono {π : pm_T} : ∀ n, (∀ d, d < n → WBd π d) → ∀ d, d < n → ll π d ≤ ll π (n - 1)
  | 0, _, d, h => by omega
  | n + 1, H, d, h => by
    by_cases c : d = n
    · subst c; exact Nat.le_refl _
    · have := ll_mono n (fun d hd => H d (by omega)) d (by omega)
      have h1 := H n (by omega)
      obtain ⟨⟨a1, a2⟩, a3, -, -⟩ := h1
      obtain ⟨k, rfl⟩ : ∃ k, n = k + 1 := ⟨n - 1, by omega⟩
      have e : ss π (k + 1) = ll π k + 1 := rfl
      show ll π d ≤ ll π (k + 1)
      have : ll π d ≤ ll π k := this
      omega
/-- a part more in the innermost run -/
theorem WB_add {π π' : pm_T} (H : WBp π) (e0 : sz π' = sz π + 1) (e1 : dp π' = dp π) (h : ∀ a k, k ≠ sz π → a = 1 ∨ a = 14 → π' a k = π a k) (h15 : ∀ d, π' 15 d = π 15 d ∧ π' 16 d = π 16 d) (hk : π' 1 (sz π) = 256 ∨ π' 1 (sz π) = 124) : WBp π' := by
  obtain ⟨a1, a2, a3⟩ := H
  have es : ss π' (dp π) = ss π (dp π) := ss_c (fun e _ => (h15 e).2)
  refine ⟨fun d hd => ?_, by rw [e1, es]; omega, ?_⟩
  · have W := a1 d (by omega)
    have := W.1.2
    exact WBd_c W (h15 d).1 (fun e _ => (h15 e).2) (by omega) (fun j hj => ⟨h _ _ (by omega) (Or.inl rfl), h _ _ (by omega) (Or.inr rfl)⟩) (fun j hj => h _ _ (by omega) (Or.inl rfl))
  · rw [e1, es, e0]
    refine RG_app (RG_c a3 (fun j _ c => ⟨h _ _ (by omega) (Or.inl rfl), h _ _ (by omega) (Or.inr rfl)⟩) (fun w => by cases w)) rfl _ ?_
    rcases hk with hk | hk
    · exact RG.ev hk (RG.nil _ _)
    · exact RG.ln hk (RG.nil _ _)
/-- a bracket opened -/
theorem WB_opn {π π' : pm_T} (H : WBp π) (e0 : sz π' = sz π + 1) (e1 : dp π' = dp π + 1) (h : ∀ a k, k ≠ sz π → a = 1 ∨ a = 14 → π' a k = π a k) (h15 : ∀ d, d < dp π → π' 15 d = π 15 d ∧ π' 16 d = π 16 d) (ho : oo π' (dp π) = sz π ∧ ll π' (dp π) = sz π) (hk : π' 1 (sz π) = 91 ∨ π' 1 (sz π) = 123) : WBp π' := by
  obtain ⟨a1, a2, a3⟩ := H
  have es : ss π' (dp π) = ss π (dp π) := ss_c (fun e he => (h15 e he).2)
  refine ⟨fun d hd => ?_, ?_, ?_⟩
  · by_cases c : d = dp π
    · subst c
      unfold WBd
      rw [ho.1, ho.2, es]
      refine ⟨⟨Nat.le_refl _, by omega⟩, a2, RG_c a3 (fun j _ c => ⟨h _ _ (by omega) (Or.inl rfl), h _ _ (by omega) (Or.inr rfl)⟩) (fun w => by cases w), ?_⟩
      rcases hk with hk | hk
      · exact Or.inl ⟨hk, PCh.nil⟩
      · exact Or.inr ⟨hk, rfl⟩
    · have W := a1 d (by omega)
      have := W.1.2
      exact WBd_c W (h15 d (by omega)).1 (fun e he => (h15 e (by omega)).2) (by omega) (fun j hj => ⟨h _ _ (by omega) (Or.inl rfl), h _ _ (by omega) (Or.inr rfl)⟩) (fun j hj => h _ _ (by omega) (Or.inl rfl))
  · rw [e1]; show ll π' (dp π) + 1 ≤ _; rw [ho.2]; omega
  · rw [e1]; show RG π' true _ (ll π' (dp π) + 1) _; rw [ho.2, e0]; exact RG.nil _ _
/-- a mark : of the innermost [ -/
theorem WB_col {π π' : pm_T} (H : WBp π) (hD : 0 < dp π ∧ dp π ≤ 7) (e0 : sz π' = sz π + 1) (e1 : dp π' = dp π) (h : ∀ k, k ≠ sz π → π' 1 k = π 1 k) (h14 : ∀ k, k ≠ sz π → k ≠ ll π (dp π - 1) → π' 14 k = π 14 k) (hl : lk π' (ll π (dp π - 1)) = sz π) (h15 : ∀ d, d < dp π → π' 15 d = π 15 d) (h16 : ∀ d, d < dp π - 1 → π' 16 d = π 16 d) (hn : ll π' (dp π - 1) = sz π) (hk : π' 1 (sz π) = 58) (ho : π 1 (oo π (dp π - 1)) = 91) : WBp π' := by
  obtain ⟨a1, a2, a3⟩ := H
  obtain ⟨D, eD⟩ : ∃ D, dp π = D + 1 := ⟨dp π - 1, by omega⟩
  rw [eD] at a1 a2 a3 h14 hl h16 hn ho h15
  simp only [Nat.add_sub_cancel] at h14 hl h16 hn ho
  have a2' : ll π D + 1 ≤ sz π := a2
  have a3' : RG π true (7 - (D + 1)) (ll π D + 1) (sz π) := a3
  refine ⟨fun d hd => ?_, ?_, ?_⟩
  · by_cases c : d = D
    · subst c
      obtain ⟨⟨b1, b2⟩, b3, b4, b5⟩ := a1 d (by omega)
      have eo : oo π' d = oo π d := by unfold oo; rw [h15 d (by omega)]
      have es : ss π' d = ss π d := ss_c (fun e he => h16 e he)
      unfold WBd
      rw [eo, es, hn]
      refine ⟨⟨by omega, by omega⟩, b3, RG_c b4 (fun j _ c => ⟨h _ (by omega), h14 _ (by omega) (by omega)⟩) (fun w => by cases w), Or.inl ⟨by rw [h _ (by omega)]; exact ho, ?_⟩⟩
      rcases b5 with ⟨-, b6⟩ | ⟨b6, -⟩
      · have p := PCh_c (π' := π') b6 (fun j _ c => ⟨h _ (by omega), h14 _ (by omega) (by omega)⟩) (h _ (by omega))
        have r : RG π' true (6 - d) (ll π d + 1) (sz π) := by
          have e7 : 7 - (d + 1) = 6 - d := by omega
          rw [e7] at a3'
          exact RG_c a3' (fun j _ c => ⟨h _ (by omega), h14 _ (by omega) (by omega)⟩) (fun w => by cases w)
        have := PCh.step p (by rw [hl]; omega) (by rw [hl]; exact hk) (by rw [hl]; exact r)
        rw [hl] at this; exact this
      · rw [ho] at b6; cases b6
    · have W := a1 d (by omega)
      have m := ll_mono (D + 1) a1 d (by omega)
      simp only [Nat.add_sub_cancel] at m
      have s1 := W.1.2
      exact WBd_c W (h15 d (by omega)) (fun e he => h16 e (by omega)) (by omega) (fun j hj => ⟨h _ (by omega), h14 _ (by omega) (by omega)⟩) (fun j hj => h _ (by omega))
  · rw [e1, eD]; show ll π' D + 1 ≤ _; rw [hn]; omega
  · rw [e1, eD]; show RG π' true _ (ll π' D + 1) _; rw [hn, e0]; exact RG.nil _ _
/-- the end of the innermost bracket -/
theorem WB_end {π π' : pm_T} (H : WBp π) (hD : 0 < dp π ∧ dp π ≤ 7) (e0 : sz π' = sz π + 1) (e1 : dp π' = dp π - 1) (h : ∀ k, k ≠ sz π → π' 1 k = π 1 k) (h14 : ∀ k, k ≠ sz π → k ≠ ll π (dp π - 1) → π' 14 k = π 14 k) (hl : lk π' (ll π (dp π - 1)) = sz π) (h15 : ∀ d, d < dp π → π' 15 d = π 15 d) (h16 : ∀ d, d < dp π - 1 → π' 16 d = π 16 d) (hk : (π' 1 (sz π) = 93 ∧ π 1 (oo π (dp π - 1)) = 91) ∨ (π' 1 (sz π) = 125 ∧ π 1 (oo π (dp π - 1)) = 123)) : WBp π' := by
  obtain ⟨a1, a2, a3⟩ := H
  obtain ⟨D, eD⟩ : ∃ D, dp π = D + 1 := ⟨dp π - 1, by omega⟩
  rw [eD] at a1 a2 a3 h14 hl h16 hk h15 e1
  simp only [Nat.add_sub_cancel] at h14 hl h16 hk e1
  have a2' : ll π D + 1 ≤ sz π := a2
  have e7 : 7 - (D + 1) = 6 - D := by omega
  have a3' : RG π true (6 - D) (ll π D + 1) (sz π) := by rw [← e7]; exact a3
  have r : RG π' true (6 - D) (ll π D + 1) (sz π) := RG_c a3' (fun j _ c => ⟨h _ (by omega), h14 _ (by omega) (by omega)⟩) (fun w => by cases w)
  have es : ss π' D = ss π D := ss_c (fun e he => h16 e he)
  obtain ⟨⟨b1, b2⟩, b3, b4, b5⟩ := a1 D (by omega)
  have r4 : RG π' true (7 - D) (ss π D) (oo π D) := RG_c b4 (fun j _ c => ⟨h _ (by omega), h14 _ (by omega) (by omega)⟩) (fun w => by cases w)
  refine ⟨fun d hd => ?_, by rw [e1, es]; omega, ?_⟩
  · have W := a1 d (by omega)
    have m := ll_mono (D + 1) a1 d (by omega)
    simp only [Nat.add_sub_cancel] at m
    have s1 := W.1.2
    exact WBd_c W (h15 d (by omega)) (fun e he => h16 e (by omega)) (by omega) (fun j hj => ⟨h _ (by omega), h14 _ (by omega) (by omega)⟩) (fun j hj => h _ (by omega))
  · rw [e1, es, e0]
    refine RG_app r4 rfl _ ?_
    have e8 : 7 - D = (6 - D) + 1 := by omega
    rw [e8]
    rcases hk with ⟨k1, k2⟩ | ⟨k1, k2⟩
    · refine RG.rp (by rw [h _ (by omega)]; exact k2) ?_ (RG.nil _ _)
      rcases b5 with ⟨-, b6⟩ | ⟨b6, -⟩
      · have p := PCh_c (π' := π') b6 (fun j _ c => ⟨h _ (by omega), h14 _ (by omega) (by omega)⟩) (h _ (by omega))
        have := RG.m1 (π := π') (d := 6 - D) (p := ll π D) (by rw [hl]; omega) (by rw [hl]; exact k1) (by rw [hl]; exact r)
        rw [hl] at this
        exact PCh_end p _ this
      · rw [k2] at b6; cases b6
    · rcases b5 with ⟨b6, -⟩ | ⟨-, b6⟩
      · rw [k2] at b6; cases b6
      · rw [b6] at hl r
        have := RG.st (π := π') (d := 6 - D) (x := oo π D) (y := sz π + 1) (by rw [h _ (by omega)]; exact k2) (by rw [hl]; omega) (by rw [hl]; exact k1) (by rw [hl]; exact r) (by rw [hl]; exact RG.nil _ _)
        exact this

/-! ===== brackets through the reading of parts ===== -/
def WC (π : pm_T) : Prop := 0 ≤ π 0 0 ∧ (0 ≤ π 0 1 ∧ π 0 1 ≤ 7) ∧ WBp π
/-- what a sound leaves -/
def sk (π π' : pm_T) : Prop := ∀ a k, (a = 0 ∧ k ≤ 1) ∨ a = 1 ∨ (14 ≤ a ∧ a ≤ 16) → π' a k = π a k
theorem sk_t {π π' π'' : pm_T} (h : sk π π') (h2 : sk π' π'') : sk π π'' := fun a k q => (h2 a k q).trans (h a k q)
theorem sk_adm {π : pm_T} : sk π (adm π) := fun a k q => adm_o (by omega)
theorem sk_pch {t : tk_T} {i : Nat} {g : Int} {π : pm_T} (h : 0 ≤ π 5 (sz π) ∧ π 5 (sz π) ≤ 3) : sk π (pch t i g π) := fun a k q => by
  obtain ⟨n, en⟩ : ∃ n : Nat, π 5 (sz π) = (n : Int) := ⟨(π 5 (sz π)).toNat, by omega⟩
  exact pch_o en (by omega) (by omega)
theorem sk_snd0 {π : pm_T} : sk π (snd0 π) := fun a k q => by
  unfold snd0; rw [up2_o (by omega), up2_o (by omega), up2_o (by omega)]
theorem sp_chord_s {t : tk_T} : ∀ (f i : Nat) (π : pm_T) (q : Nat × pm_T), 0 ≤ π 5 (sz π) → π 5 (sz π) ≤ 4 → sp_chord t f i π = .inr q → sk π q.2
  | 0, _, _, _, _, _, e => by rw [sp_chord] at e; cases e
  | f + 1, i, π, q, h0, h4, e => by
    rw [sp_chord] at e
    split at e
    · split at e
      · cases e
      · rename_i n4
        split at e
        · cases e
        · by_cases h : π 0 2 < 300
          · rw [sp_adm_a h] at e
            simp only [bnd] at e
            have a5 : adm π 5 (sz (adm π)) = π 5 (sz π) := by rw [sz_adm, adm_o (by omega)]
            have s1 : sk π (pch t i (sgt t i) (adm π)) := sk_t sk_adm (sk_pch (by rw [a5]; omega))
            have b5 : pch t i (sgt t i) (adm π) 5 (sz (pch t i (sgt t i) (adm π))) = π 5 (sz π) + 1 := by rw [sz_pch, pch_5, a5]
            split at e
            · cases e; exact s1
            · exact sk_t s1 (sp_chord_s f (i + 1) _ q (by rw [b5]; omega) (by rw [b5]; omega) e)
          · rw [sp_adm_n h] at e; cases e
    · cases e
theorem sp_sound_s {t : tk_T} {i : Nat} {π : pm_T} {q : Nat × pm_T} (e : sp_sound t i π = .inr q) : sk π q.2 := by
  have es : sz (snd0 π) = sz π := by unfold snd0; rw [sz_up (by omega), sz_up (by omega), sz_up (by omega)]
  have e5 : snd0 π 5 (sz (snd0 π)) = 0 := by rw [es]; unfold snd0; rw [up2_o (by omega), up2_o (by omega), up2_at]
  have a5 : adm (snd0 π) 5 (sz (adm (snd0 π))) = 0 := by rw [sz_adm, adm_o (by omega)]; exact e5
  rw [sp_sound] at e
  split at e
  · obtain ⟨b, eb, e⟩ := bnd_r e
    cases e
    by_cases h : snd0 π 0 2 < 300
    · rw [sp_adm_a h] at eb; cases eb; exact sk_t sk_snd0 sk_adm
    · rw [sp_adm_n h] at eb; cases eb
  · split at e
    · obtain ⟨b, eb, e⟩ := bnd_r e
      cases e
      by_cases h : snd0 π 0 2 < 300
      · rw [sp_adm_a h] at eb; cases eb
        exact sk_t (sk_t sk_snd0 sk_adm) (sk_pch (by rw [a5]; omega))
      · rw [sp_adm_n h] at eb; cases eb
    · exact sk_t sk_snd0 (sp_chord_s _ _ _ _ (by rw [e5]; omega) (by rw [e5]; omega) e)
theorem WC_addE {π ρ : pm_T} {n d w : Int} (H : WC π) (s : sk π ρ) : WC (addE ρ n d w) := by
  obtain ⟨h0, h1, W⟩ := H
  have r0 : ρ 0 0 = π 0 0 := s _ _ (by omega)
  have r1 : ρ 0 1 = π 0 1 := s _ _ (by omega)
  have o1 : addE ρ n d w 0 1 = π 0 1 := by rw [addE_o (by omega) (by omega), r1]
  have z : sz ρ = sz π := by unfold sz; rw [r0]
  have k0 : addE ρ n d w 0 0 = π 0 0 + 1 := by rw [addE_0.1, r0]
  refine ⟨by omega, by omega, WB_add W (by unfold sz; omega) (by unfold dp; rw [o1]) (fun a k hk ha => ?_) (fun d' => ⟨?_, ?_⟩) (Or.inl (by rw [← z]; exact addE_v.1))⟩
  · rw [addE_o (by omega) (by omega)]; exact s _ _ (by omega)
  · rw [addE_o (by omega) (by omega)]; exact s _ _ (by omega)
  · rw [addE_o (by omega) (by omega)]; exact s _ _ (by omega)
theorem WC_addL {π : pm_T} (H : WC π) : WC (addP π 124 0 0) := by
  obtain ⟨h0, h1, W⟩ := H
  have o1 : addP π 124 0 0 0 1 = π 0 1 := addP_o (by omega) (by omega)
  have k0 := (addP_v (π := π) (c := 124) (x := 0) (y := 0)).1
  exact ⟨by omega, by omega, WB_add W (by unfold sz; omega) (by unfold dp; rw [o1]) (fun a k hk ha => addP_o (by omega) (by omega)) (fun d' => ⟨addP_o (by omega) (by omega), addP_o (by omega) (by omega)⟩) (Or.inr addP_v.2.1)⟩
theorem WC_addO {π : pm_T} {c x y : Int} (H : WC π) (h6 : π 0 1 ≤ 6) (hc : c = 91 ∨ c = 123) : WC (addP (opn π) c x y) := by
  obtain ⟨h0, h1, W⟩ := H
  obtain ⟨z0, v1, v2, v3, v14⟩ := addP_v (π := opn π) (c := c) (x := x) (y := y)
  obtain ⟨w1, w15, w16⟩ := opn_v (π := π)
  rw [sz_opn] at v1
  rw [opn_o (by omega) (by omega)] at z0
  have o1 : addP (opn π) c x y 0 1 = π 0 1 + 1 := by rw [addP_o (by omega) (by omega), w1]
  have r : ∀ a d, a = 15 ∨ a = 16 → addP (opn π) c x y a d = opn π a d := fun a d ha => addP_o (by omega) (by omega)
  refine ⟨by omega, by omega, WB_opn W (by unfold sz; omega) (by unfold dp; omega) (fun a k hk ha => ?_) (fun d hd => ⟨?_, ?_⟩) ⟨?_, ?_⟩ (by rw [v1]; exact hc)⟩
  · rw [addP_o (by omega) (by rw [sz_opn]; omega), opn_o (by omega) (by omega)]
  · rw [r _ _ (Or.inl rfl), opn_o (by omega) (by omega)]
  · rw [r _ _ (Or.inr rfl), opn_o (by omega) (by omega)]
  · unfold oo; rw [r _ _ (Or.inl rfl), w15]; rfl
  · unfold ll; rw [r _ _ (Or.inr rfl), w16]; rfl
theorem WC_addM {π : pm_T} {K : Int} (H : WC π) (hm : mkb π K = true) : WC (addM π K) := by
  obtain ⟨h0, h1, W⟩ := H
  have hK : K = 58 ∨ K = 93 ∨ K = 125 := by
    by_cases c : K = 58 ∨ K = 93 ∨ K = 125
    · exact c
    · exact absurd hm (mkb_f c)
  obtain ⟨m1, m2⟩ := (mkb_t hK).mp hm
  have hD : 0 < dp π ∧ dp π ≤ 7 := by unfold dp; omega
  have hl := (W.1 (dp π - 1) (by omega)).1.2
  obtain ⟨z0, z1, v1, v14, l14, l16⟩ := addM_v (π := π) (K := K) (show ll π (dp π - 1) ≠ sz π by omega)
  have ez : sz (addM π K) = sz π + 1 := by unfold sz; omega
  have a1 : ∀ k, k ≠ sz π → addM π K 1 k = π 1 k := fun k hk => addM_o (by omega) (by omega) (by omega) (by omega)
  have a14 : ∀ k, k ≠ sz π → k ≠ ll π (dp π - 1) → addM π K 14 k = π 14 k := fun k hk hk2 => addM_o (by omega) (by omega) (by unfold ll at hk2; omega) (by omega)
  have a15 : ∀ d, d < dp π → addM π K 15 d = π 15 d := fun d _ => addM_o (by omega) (by omega) (by omega) (by omega)
  have a16 : ∀ d, d < dp π - 1 → addM π K 16 d = π 16 d := fun d hd => addM_o (by omega) (by omega) (by omega) (by omega)
  have lk14 : lk (addM π K) (ll π (dp π - 1)) = sz π := by unfold lk ll; rw [l14]; rfl
  by_cases c : K = 58
  · rw [if_pos c] at z1
    refine ⟨by omega, by omega, WB_col W hD ez (by unfold dp; rw [z1]) a1 a14 lk14 a15 a16 (by unfold ll; rw [l16]; rfl) (by rw [v1]; exact c) ?_⟩
    rw [if_neg (by omega)] at m2; exact m2
  · rw [if_neg c] at z1
    refine ⟨by omega, by omega, WB_end W hD ez (by unfold dp; omega) a1 a14 lk14 a15 a16 ?_⟩
    rw [v1]
    by_cases c2 : K = 125
    · rw [if_pos c2] at m2; exact Or.inr ⟨c2, m2⟩
    · rw [if_neg c2] at m2; exact Or.inl ⟨by omega, m2⟩
theorem sp_part_WC {t : tk_T} {i : Nat} {π : pm_T} {q : Nat × pm_T} (H : WC π) (e : sp_part t i π = .inr q) : WC q.2 := by
  unfold sp_part at e
  split at e
  · rename_i hm; cases e; exact WC_addM H hm
  split at e
  · split at e
    · rw [sp_event_e] at e
      obtain ⟨a, ea, e⟩ := bnd_r e
      obtain ⟨n, -, e⟩ := bnd_r e
      obtain ⟨d, ed, e⟩ := bnd_r e
      have s := sp_sound_s ea
      unfold sp_tie at e
      split at e
      · split at e
        · cases e
        · cases e; exact WC_addE H s
      · cases e; exact WC_addE H s
    · cases e
  split at e
  · split at e
    · cases e; exact WC_addL H
    · cases e
  split at e
  · split at e
    · rename_i h6; cases e; exact WC_addO H h6 (Or.inl rfl)
    · cases e
  split at e
  · split at e
    · rename_i h6
      unfold sp_times at e
      obtain ⟨a, -, e⟩ := bnd_r e
      obtain ⟨b, -, e⟩ := bnd_r e
      obtain ⟨c, -, e⟩ := bnd_r e
      obtain ⟨d, -, e⟩ := bnd_r e
      cases e; exact WC_addO H h6 (Or.inr rfl)
    · cases e
  · cases e
theorem sp_parts_WC {t : tk_T} : ∀ (f i : Nat) (π : pm_T) (q : Nat × pm_T), WC π → sp_parts t f i π = .inr q → WC q.2 ∧ q.2 0 1 ≤ 0
  | 0, _, _, _, _, e => by rw [sp_parts] at e; cases e
  | f + 1, i, π, q, H, e => by
    rw [sp_parts] at e
    split at e
    · rename_i h; cases e; exact ⟨H, h.2⟩
    · obtain ⟨b, eb, e⟩ := bnd_r e
      exact sp_parts_WC f b.1 b.2 q (sp_part_WC H eb) e
theorem WC_0 : WC par0 := ⟨Int.le_refl _, ⟨Int.le_refl _, by decide⟩, fun d hd => absurd hd (Nat.not_lt_zero d), Nat.le_refl _, RG.nil _ _⟩
/-- a voice's parts are well nested -/
theorem sp_parts_RG {t : tk_T} {f i : Nat} {q : Nat × pm_T} (e : sp_parts t f i par0 = .inr q) : RG q.2 true 7 0 (sz q.2) ∧ 0 ≤ q.2 0 0 := by
  obtain ⟨⟨h0, h1, W⟩, h2⟩ := sp_parts_WC f i par0 q WC_0 e
  have e0 : dp q.2 = 0 := by unfold dp; omega
  have := W.2.2
  rw [e0] at this
  exact ⟨this, h0⟩
