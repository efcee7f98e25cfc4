/-! ===== a PITCH has at most two # or b: what a text's memory keeps of it ===== -/
theorem wh_sw {b : Int} (h0 : 65 ≤ b) (h1 : b ≤ 71) : (sw b + 2) % 7 + 65 = b := by unfold sw; split <;> omega
/-- facts of a table: a good token isn't the last one; a PITCH has at most two signs -/
def TG2 (t : tk_T) (m : Nat) : Prop := (∀ i, i < m → gk (tK t i) → i + 1 < m) ∧ ∀ i, i < m → tK t i = 258 → sgt t i ≤ 2
theorem XA_g2 {X : tx_T} (hA : XA X) : TG2 X.2.2.1 X.2.2.2.1 := by
  refine ⟨fun i hi hg => TkA_n hA hi hg, fun i hi hk => ?_⟩
  obtain ⟨h1, h2, h3, h4⟩ := hA.2.1 i hi
  have w : X.2.2.2.2.1 i < X.2.1 := by
    rcases Nat.lt_or_ge (X.2.2.2.2.1 i) X.2.1 with w | w
    · exact w
    · have := (h3 (by omega)).1; omega
  obtain ⟨⟨t1, t2, t3, t4⟩, -⟩ := h4 w
  generalize X.2.2.2.2.1 i = p at *
  by_cases c1 : 65 ≤ X.1 p ∧ X.1 p ≤ 71
  · obtain ⟨q1, q2⟩ := t1 c1
    by_cases d : 48 ≤ tb X.1 X.2.1 (p + 1 + mk X.1 X.2.1 p) ∧ tb X.1 X.2.1 (p + 1 + mk X.1 X.2.1 p) ≤ 56
    · obtain ⟨-, e2, e3, -⟩ := q1 d
      have m2 := mk_2 (T := X.1) (n := X.2.1) (p := p)
      have e4 : -2 ≤ (if tb X.1 X.2.1 (p + 1) = 35 then (mk X.1 X.2.1 p : Int) else -(mk X.1 X.2.1 p : Int)) ∧ (if tb X.1 X.2.1 (p + 1) = 35 then (mk X.1 X.2.1 p : Int) else -(mk X.1 X.2.1 p : Int)) ≤ 2 := by split <;> omega
      have sb := sw_b c1.1 c1.2
      have ws := wh_sw c1.1 c1.2
      have ed : (tS X.2.2.1 i) / 7 = tb X.1 X.2.1 (p + 1 + mk X.1 X.2.1 p) - 48 := by rw [e3]; omega
      have em : (tS X.2.2.1 i) % 7 = sw (X.1 p) := by rw [e3]; omega
      unfold sgt sgk
      rw [ed, em, ws, e2]
      generalize (if tb X.1 X.2.1 (p + 1) = 35 then (mk X.1 X.2.1 p : Int) else -(mk X.1 X.2.1 p : Int)) = y at *
      split <;> omega
    · have := q2 d; omega
  · by_cases c2 : isSm (X.1 p)
    · obtain ⟨-, s1, s2⟩ := t2 c2
      by_cases c : 8 < X.2.2.2.2.2 i - p
      · have := s1 c; omega
      · have := (s2 (by omega)).1; have := knm_b (x := lvl X.1 p (X.2.2.2.2.2 i - p)); omega
    · by_cases c3 : isDg (X.1 p)
      · obtain ⟨-, s1, s2⟩ := t3 c3
        by_cases c : 4 < X.2.2.2.2.2 i - p
        · have := s1 c; omega
        · have := (s2 (by omega)).1; omega
      · obtain ⟨-, a2, a3⟩ := t4 c1 c2 c3
        by_cases c : isSg (X.1 p)
        · have := a2 c; unfold isSg at c; omega
        · have := a3 c; omega
section
variable {t : tk_T} {m : Nat}
theorem nx_i {i : Nat} {k : Int} (hT : TG2 t m) (hi : i < m) (e : tK t i = k) (h1 : k ≠ 256) (h2 : k ≠ 257) : i + 1 < m := hT.1 i hi ⟨by omega, by omega⟩
theorem num_i {i : Nat} {a b : Int} {p : Bool} (e : sp_num t i a p = .inr b) : tK t i = 259 := by
  unfold sp_num at e
  split at e
  · assumption
  · cases e
theorem take_i {i : Nat} {k : Int} {u : Unit} (e : sp_take t i k = .inr u) : tK t i = k := by
  unfold sp_take at e
  split at e
  · assumption
  · cases e
theorem name_i {i : Nat} {μ : pm_T} {v : Int × pm_T} (e : sp_name t i μ = .inr v) : tK t i = 260 := by
  unfold sp_name at e
  split at e
  · assumption
  · cases e
theorem sgtime_i {i : Nat} {μ : pm_T} {q : Nat × pm_T} (hT : TG2 t m) (hi : i + 1 < m) (e : sp_time t i μ = .inr q) : q.1 < m := by
  unfold sp_time at e
  split at e
  · obtain ⟨a, ea, e⟩ := bnd_r e
    obtain ⟨b, eb, e⟩ := bnd_r e
    obtain ⟨c, ec, e⟩ := bnd_r e
    obtain ⟨d, ed, e⟩ := bnd_r e
    cases e
    have h2 := nx_i hT hi (num_i ea) (by decide) (by decide)
    have h3 := nx_i hT h2 (take_i eb) (by decide) (by decide)
    have h4 := nx_i hT h3 (num_i ec) (by decide) (by decide)
    exact nx_i hT h4 (take_i ed) (by decide) (by decide)
  · cases e
theorem sgpits_i (hT : TG2 t m) : ∀ (f i : Nat) (μ : pm_T) (q : Nat × pm_T), i < m → sp_pits t f i μ = .inr q → q.1 < m
  | 0, _, _, _, _, e => by rw [sp_pits] at e; cases e
  | f + 1, i, μ, q, hi, e => by
    rw [sp_pits] at e
    split at e
    · rename_i k1
      have h1 := nx_i hT hi k1 (by decide) (by decide)
      split at e
      · cases e
      · split at e
        · rename_i k2
          cases e
          exact nx_i hT h1 k2 (by decide) (by decide)
        · exact sgpits_i hT f _ _ q h1 e
    · cases e
theorem sgrows_i (hT : TG2 t m) : ∀ (f i : Nat) (μ : pm_T) (q : Nat × pm_T), i < m → sp_rows t f i μ = .inr q → q.1 < m
  | 0, _, _, _, _, e => by rw [sp_rows] at e; cases e
  | f + 1, i, μ, q, hi, e => by
    rw [sp_rows] at e
    split at e
    · rename_i k1
      have h1 := nx_i hT hi k1 (by decide) (by decide)
      split at e
      · obtain ⟨a, ea, e⟩ := bnd_r e
        split at e
        · rename_i k2
          cases e
          exact nx_i hT h1 k2 (by decide) (by decide)
        · exact sgrows_i hT f _ _ q h1 e
      · cases e
    · cases e
theorem sgrule_i {i : Nat} {μ : pm_T} {q : Nat × pm_T} (hT : TG2 t m) (hi : i + 1 < m) (e : sp_rule t i μ = .inr q) : q.1 < m := by
  unfold sp_rule at e
  split at e
  · obtain ⟨a, ea, e⟩ := bnd_r e
    obtain ⟨b, eb, e⟩ := bnd_r e
    obtain ⟨c, ec, e⟩ := bnd_r e
    have h2 := nx_i hT hi (name_i ea) (by decide) (by decide)
    have h3 := nx_i hT h2 (take_i eb) (by decide) (by decide)
    have h4 := nx_i hT h3 (name_i ec) (by decide) (by decide)
    split at e
    · rename_i k4
      have h5 := nx_i hT h4 k4 (by decide) (by decide)
      obtain ⟨d, ed, e⟩ := bnd_r e
      obtain ⟨f, ef, e⟩ := bnd_r e
      cases e
      exact nx_i hT h5 (take_i ef) (by decide) (by decide)
    · obtain ⟨d, ed, e⟩ := bnd_r e
      cases e
      exact nx_i hT h4 (take_i ed) (by decide) (by decide)
  · cases e
/-- signs of the sounds of a voice -/
def Sg (π : pm_T) : Prop := ∀ j, π 17 j ≤ 2 * π 5 j
theorem Sg_c {π π' : pm_T} (H : Sg π) (e : ∀ j, π' 17 j = π 17 j ∧ π' 5 j = π 5 j) : Sg π' := fun j => by
  rw [(e j).1, (e j).2]
  exact H j
theorem Sg_u {π : pm_T} {a k : Nat} {z : Int} (H : Sg π) (h1 : a ≠ 17) (h2 : a ≠ 5) : Sg (up2 π a k z) := Sg_c H (fun j => ⟨up2_o (by omega), up2_o (by omega)⟩)
theorem Sg_snd0 {π : pm_T} (H : Sg π) : Sg (snd0 π) := fun j => by
  unfold snd0
  by_cases c : j = sz π
  · subst c
    rw [up2_o (by omega), up2_at, up2_o (by omega), up2_o (by omega), up2_at]
    decide
  · rw [up2_o (by omega), up2_o (by omega), up2_o (by omega), up2_o (by omega), up2_o (by omega), up2_o (by omega)]
    exact H j
theorem Sg_adm {i : Nat} {π π' : pm_T} (H : Sg π) (e : sp_adm t i π = .inr π') : Sg π' ∧ sz π' = sz π ∧ ∀ k, π' 5 k = π 5 k := by
  unfold sp_adm at e
  split at e
  · cases e
    exact ⟨Sg_u H (by decide) (by decide), sz_up (by omega), fun k => up2_o (by omega)⟩
  · cases e
theorem Sg_pch {i n : Nat} {π : pm_T} (H : Sg π) (h5 : π 5 (sz π) = (n : Int)) (hn : n ≤ 3) (hg : sgt t i ≤ 2) : Sg (pch t i (sgt t i) π) := fun j => by
  by_cases c : j = sz π
  · subst c
    have := H (sz π)
    rw [pch_17, pch_5]
    omega
  · rw [pch_o h5 (by omega) (Or.inl c), pch_o h5 (by omega) (Or.inl c)]
    exact H j
theorem chord_i (hT : TG2 t m) : ∀ (f i n : Nat) (π : pm_T) (q : Nat × pm_T), i < m → Sg π → π 5 (sz π) = (n : Int) → n ≤ 4 → sp_chord t f i π = .inr q → q.1 < m ∧ Sg q.2
  | 0, _, _, _, _, _, _, _, _, e => by rw [sp_chord] at e; cases e
  | f + 1, i, n, π, q, hi, H, h5, hn, e => by
    rw [sp_chord] at e
    split at e
    · rename_i k1
      have h1 := nx_i hT hi k1 (by decide) (by decide)
      split at e
      · cases e
      · rename_i n4
        split at e
        · cases e
        · obtain ⟨π1, ea, e⟩ := bnd_r e
          obtain ⟨H1, s1, g1⟩ := Sg_adm H ea
          have h51 : π1 5 (sz π1) = (n : Int) := by rw [g1, s1]; exact h5
          have H2 := Sg_pch (t := t) (i := i) H1 h51 (by omega) (hT.2 i hi k1)
          split at e
          · rename_i k2
            cases e
            exact ⟨nx_i hT h1 k2 (by decide) (by decide), H2⟩
          · refine chord_i hT f (i + 1) (n + 1) _ q h1 H2 ?_ (by omega) e
            rw [sz_pch, pch_5, h51]
            omega
    · cases e
theorem sound_i {i : Nat} {π : pm_T} {q : Nat × pm_T} (hT : TG2 t m) (hi : i < m) (hk : tK t i = 258 ∨ tK t i = 266 ∨ tK t i = 60) (H : Sg π) (e : sp_sound t i π = .inr q) : q.1 < m ∧ Sg q.2 := by
  have h1 : i + 1 < m := hT.1 i hi ⟨by omega, by omega⟩
  have v5 : snd0 π 5 (sz (snd0 π)) = 0 := by
    have es : sz (snd0 π) = sz π := by unfold snd0; rw [sz_up (by omega), sz_up (by omega), sz_up (by omega)]
    rw [es]
    unfold snd0
    rw [up2_o (by omega), up2_o (by omega), up2_at]
  unfold sp_sound at e
  split at e
  · obtain ⟨π1, ea, e⟩ := bnd_r e
    cases e
    exact ⟨h1, (Sg_adm (Sg_snd0 H) ea).1⟩
  · split at e
    · rename_i k1
      obtain ⟨π1, ea, e⟩ := bnd_r e
      cases e
      obtain ⟨H1, s1, g1⟩ := Sg_adm (Sg_snd0 H) ea
      exact ⟨h1, Sg_pch (n := 0) H1 (by rw [g1, s1, v5]; rfl) (by decide) (hT.2 i hi k1)⟩
    · exact chord_i hT 5 (i + 1) 0 _ q h1 (Sg_snd0 H) (by rw [v5]; rfl) (by decide) e
theorem dots_i (hT : TG2 t m) : ∀ (f i : Nat) (d : Int) (q : Nat × Int), i < m → sp_dots t f i d = .inr q → q.1 < m
  | 0, _, _, _, _, e => by rw [sp_dots] at e; cases e
  | f + 1, i, d, q, hi, e => by
    rw [sp_dots] at e
    split at e
    · rename_i k1
      split at e
      · cases e
      · exact dots_i hT f _ _ q (nx_i hT hi k1 (by decide) (by decide)) e
    · cases e; exact hi
theorem Sg_addE {π : pm_T} {n d w : Int} (H : Sg π) : Sg (addE π n d w) := by
  unfold addE
  exact Sg_u (Sg_u (Sg_u (Sg_u (Sg_u (Sg_u (Sg_u (Sg_u H (by decide) (by decide)) (by decide) (by decide)) (by decide) (by decide)) (by decide) (by decide)) (by decide) (by decide)) (by decide) (by decide)) (by decide) (by decide)) (by decide) (by decide)
theorem Sg_addP {π : pm_T} {k a b : Int} (H : Sg π) : Sg (addP π k a b) := by
  unfold addP
  exact Sg_u (Sg_u (Sg_u (Sg_u (Sg_u H (by decide) (by decide)) (by decide) (by decide)) (by decide) (by decide)) (by decide) (by decide)) (by decide) (by decide)
theorem Sg_opn {π : pm_T} (H : Sg π) : Sg (opn π) := by
  unfold opn
  exact Sg_u (Sg_u (Sg_u H (by decide) (by decide)) (by decide) (by decide)) (by decide) (by decide)
theorem Sg_addM {π : pm_T} {k : Int} (H : Sg π) : Sg (addM π k) := by
  have H1 : Sg (mrk π) := by
    unfold mrk
    exact Sg_u (Sg_u H (by decide) (by decide)) (by decide) (by decide)
  unfold addM
  split
  · exact Sg_addP H1
  · exact Sg_u (Sg_addP H1) (by decide) (by decide)
theorem event_i {i : Nat} {π : pm_T} {q : Nat × pm_T} (hT : TG2 t m) (hi : i < m) (hk : tK t i = 258 ∨ tK t i = 266 ∨ tK t i = 60) (H : Sg π) (e : sp_event t i π = .inr q) : q.1 < m ∧ Sg q.2 := by
  unfold sp_event at e
  obtain ⟨a, ea, e⟩ := bnd_r e
  obtain ⟨n, en, e⟩ := bnd_r e
  obtain ⟨d, ed, e⟩ := bnd_r e
  obtain ⟨h1, H1⟩ := sound_i hT hi hk H ea
  have h2 := nx_i hT h1 (num_i en) (by decide) (by decide)
  have h3 := dots_i hT _ _ _ _ h2 ed
  split at e
  · rename_i k1
    split at e
    · cases e
    · cases e
      exact ⟨nx_i hT h3 k1 (by decide) (by decide), Sg_addE H1⟩
  · cases e
    exact ⟨h3, Sg_addE H1⟩
theorem mkb_k {π : pm_T} {K : Int} (h : mkb π K = true) : K = 58 ∨ K = 93 ∨ K = 125 := by
  unfold mkb at h
  simp only [Bool.and_eq_true, Bool.or_eq_true, beq_iff_eq, decide_eq_true_eq] at h
  omega
theorem part_i {i : Nat} {π : pm_T} {q : Nat × pm_T} (hT : TG2 t m) (hi : i < m) (H : Sg π) (e : sp_part t i π = .inr q) : q.1 < m ∧ Sg q.2 := by
  unfold sp_part at e
  split at e
  · rename_i k1
    cases e
    have := mkb_k k1
    exact ⟨hT.1 i hi ⟨by omega, by omega⟩, Sg_addM H⟩
  split at e
  · rename_i k1
    split at e
    · exact event_i hT hi k1 H e
    · cases e
  split at e
  · rename_i k1
    split at e
    · cases e
      exact ⟨nx_i hT hi k1 (by decide) (by decide), Sg_addP H⟩
    · cases e
  split at e
  · rename_i k1
    split at e
    · cases e
      exact ⟨nx_i hT hi k1 (by decide) (by decide), Sg_addP (Sg_opn H)⟩
    · cases e
  split at e
  · rename_i k1
    split at e
    · unfold sp_times at e
      obtain ⟨a, ea, e⟩ := bnd_r e
      obtain ⟨b, eb, e⟩ := bnd_r e
      obtain ⟨c, ec, e⟩ := bnd_r e
      obtain ⟨d, ed, e⟩ := bnd_r e
      cases e
      have h1 := nx_i hT hi k1 (by decide) (by decide)
      have h2 := nx_i hT h1 (num_i ea) (by decide) (by decide)
      have h3 := nx_i hT h2 (take_i eb) (by decide) (by decide)
      have h4 := nx_i hT h3 (num_i ec) (by decide) (by decide)
      exact ⟨nx_i hT h4 (take_i ed) (by decide) (by decide), Sg_addP (Sg_opn H)⟩
    · cases e
  · cases e
theorem sgparts_i (hT : TG2 t m) : ∀ (f i : Nat) (π : pm_T) (q : Nat × pm_T), i < m → Sg π → sp_parts t f i π = .inr q → (q.1 < m ∧ Sg q.2) ∧ tK t q.1 = 59
  | 0, _, _, _, _, _, e => by rw [sp_parts] at e; cases e
  | f + 1, i, π, q, hi, H, e => by
    rw [sp_parts] at e
    split at e
    · rename_i k1
      cases e
      exact ⟨⟨hi, H⟩, k1.1⟩
    · obtain ⟨a, ea, e⟩ := bnd_r e
      obtain ⟨h1, H1⟩ := part_i hT hi H ea
      exact sgparts_i hT f _ _ q h1 H1 e
/-- signs of the events of all voices -/
def SG (μ : pm_T) : Prop := ∀ n k : Nat, μ (100 + 40 * n + 9) k ≤ 2 * μ (100 + 40 * n + 4) k
theorem SG_k {μ μ' : pm_T} (H : SG μ) (k : kr μ μ') : SG μ' := fun n j => by
  rw [k.2.1 _ _ (by omega), k.2.1 _ _ (by omega)]
  exact H n j
theorem SG_new {μ π α : pm_T} (H : SG μ) (S : Sg π) (h4 : (μ 0 7).toNat ≤ 4) : SG (addV μ π α) := fun n k => by
  by_cases c : n = (μ 0 7).toNat
  · rw [addV_i c (by decide), addV_i c (by decide)]
    exact S _
  · have r : ∀ w, w < 40 → addV μ π α (100 + 40 * n + w) k = μ (100 + 40 * n + w) k := fun w hw => by
      unfold addV
      rw [if_neg (by omega), if_neg (by omega), if_neg (by omega), if_neg (by omega)]
    rw [r 9 (by decide), r 4 (by decide)]
    exact H n k
theorem sg_items (hT : TG2 t m) : ∀ (f i : Nat) (μ ν : pm_T), i < m → sp_items t f i μ = .inr ν → SG μ → SG ν
  | 0, _, _, _, _, h, _ => by rw [sp_items] at h; cases h
  | f + 1, i, μ, ν, hi, h, H => by
    rw [sp_items] at h
    split at h
    · cases h; exact H
    · obtain ⟨q, eq, h⟩ := bnd_r h
      suffices x : q.1 < m ∧ SG q.2 from sg_items hT f _ _ _ x.1 h x.2
      clear h
      split at eq
      · rename_i k1
        exact ⟨sgtime_i hT (nx_i hT hi k1 (by decide) (by decide)) eq, SG_k H (time_k eq)⟩
      · split at eq
        · rename_i k1
          have h1 := nx_i hT hi k1 (by decide) (by decide)
          unfold sp_voice at eq
          split at eq
          · rename_i c4
            obtain ⟨a, ea, eq⟩ := bnd_r eq
            obtain ⟨⟨h2, S⟩, k2⟩ := sgparts_i hT _ _ _ _ h1 (fun j => by show (0 : Int) ≤ 2 * 0; decide) ea
            split at eq
            · cases eq
            · split at eq
              · cases eq
                exact ⟨nx_i hT h2 k2 (by decide) (by decide), SG_new H S (by omega)⟩
              · cases eq
          · cases eq
        · split at eq
          · rename_i k1
            have h1 := nx_i hT hi k1 (by decide) (by decide)
            refine ⟨?_, SG_k H (line_k eq)⟩
            unfold sp_line at eq
            split at eq
            · exact sgpits_i hT _ _ _ _ h1 eq
            · cases eq
          · split at eq
            · rename_i k1
              exact ⟨sgrule_i hT (nx_i hT hi k1 (by decide) (by decide)) eq, SG_k H (rule_k eq)⟩
            · split at eq
              · rename_i k1
                have h1 := nx_i hT hi k1 (by decide) (by decide)
                refine ⟨?_, SG_k H (row_k eq)⟩
                unfold sp_row at eq
                split at eq
                · exact sgrows_i hT _ _ _ _ h1 eq
                · cases eq
              · cases eq
end
theorem SG_of {μ : pm_T} (H : OKm μ) : SG μ := by
  have h0 : SG sco0 := fun n k => by
    unfold sco0
    rw [up2_o (by omega), up2_o (by omega), up2_o (by omega), up2_o (by omega)]
    decide
  rcases H with ⟨X, hX, e⟩ | rfl
  · exact sg_items (XA_g2 hX) _ _ _ _ hX.2.2.2.2 e h0
  · exact h0
