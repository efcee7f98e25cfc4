/-! ===== the WALK, class: runs ===== -/
theorem RG_t {π : pm_T} {d i y : Nat} (H : RG π true d i y) (h : i < y) : (π 1 i = 256 ∧ RG π true d (i + 1) y) ∨ (π 1 i = 124 ∧ RG π true d (i + 1) y) ∨ (∃ d', d = d' + 1 ∧ π 1 i = 123 ∧ i < lk π i ∧ RG π true d' (i + 1) (lk π i) ∧ RG π true d (lk π i + 1) y) ∨ (∃ d' c, d = d' + 1 ∧ π 1 i = 91 ∧ RG π false d' i c ∧ RG π true d (c + 1) y) := by
  have key : ∀ (b : Bool) (d i y : Nat) (H : RG π b d i y), b = true → i < y → (π 1 i = 256 ∧ RG π true d (i + 1) y) ∨ (π 1 i = 124 ∧ RG π true d (i + 1) y) ∨ (∃ d', d = d' + 1 ∧ π 1 i = 123 ∧ i < lk π i ∧ RG π true d' (i + 1) (lk π i) ∧ RG π true d (lk π i + 1) y) ∨ (∃ d' c, d = d' + 1 ∧ π 1 i = 91 ∧ RG π false d' i c ∧ RG π true d (c + 1) y) := by
    intro b d i y H
    induction H using RG.rc with
    | nil => intro _ w; omega
    | ev hk r _ => intro _ _; exact Or.inl ⟨hk, r⟩
    | ln hk r _ => intro _ _; exact Or.inr (Or.inl ⟨hk, r⟩)
    | st hk hl hc r1 r2 _ _ => intro _ _; exact Or.inr (Or.inr (Or.inl ⟨_, rfl, hk, hl, r1, r2⟩))
    | rp hk r1 r2 _ _ => intro _ _; exact Or.inr (Or.inr (Or.inr ⟨_, _, rfl, hk, r1, r2⟩))
    | m1 _ _ _ _ => intro w; cases w
    | m2 _ _ _ _ _ _ => intro w; cases w
  exact key _ _ _ _ H rfl h
theorem t_AW1 {G : cx_T} {s v : Nat} {π : pm_T} {d : Nat} (hv : isV v) (P : PW π) (hz : π 0 0 ≤ 2000) (hd : d < 8) (IH : ∀ d', d = d' + 1 → AWk G s v π d' ∧ BWk G s v π d') : AWk G s v π d := by
  intro dd x y F a2 a3 a4 sT sB α hh hdd ea2 ea3 ea4 hb0 HR R hy hF hT hB hK
  subst ea2 ea3 ea4
  have v24 := isV_24 hv
  have bu := bq_u d hd
  have hyz : (y : Int) ≤ π 0 0 := by unfold sz at hy; have := P.1.1; omega
  have lkh : ∀ (h' : ah_T) (j : Nat), RPc π v h' → (j : Int) < π 0 0 → h'.2.1 11 j = (lk π j : Int) ∧ h'.2.1 10 j = π 1 j := fun h' j H hj => by
    have h1 := (H.2.2 j hj).1
    have h2 := (P.2.2 j hj).1
    exact ⟨by rw [h1.2]; unfold lk; omega, h1.1⟩
  refine c_Parts_walkThrough (by omega) hv (X11 := fun v9 h1 => ∃ (i f : Nat) (α' : pm_T), v9 = (i : Int) ∧ x ≤ i ∧ RPc π v h1 ∧ RG π true d i y ∧ y + 1 ≤ f + i ∧ fr (WW v) hh h1 ∧ WKp π α' v h1 ∧ wk π F true x y sT sB α = wk π f true i y sT sB α' ∧ (h1.2.1 9 8 ≤ hh.2.1 9 8 ∨ h1.2.1 9 8 ≤ 2001 + 4004 * (d : Int))) ?_ hb0 (fun _ _ _ _ _ => ?_)
  · refine lp_Parts_walkThrough_11 (a2 := (x : Int)) (by omega) hv _ (fun v9 _ => y - v9.toNat) ?_
    rintro v9 h1 hb1 ⟨i, f, α', rfl, hxi, HR1, R1, hfu, hf, hK1, ew, hs1⟩
    have hiy := (RG_le R1).1
    obtain ⟨f', rfl⟩ : ∃ f', f = f' + 1 := ⟨f - 1, by omega⟩
    unfold B_Parts_walkThrough_11 B_Parts_walkThrough_218
    refine ⟨fun c => ⟨rfl, hb1, hf, ?_, hs1⟩, fun c x1 e1 _ _ => ⟨fun c1 => ?_, fun c1 x2 e2 _ _ => ⟨fun c2 => ⟨rfl, hb1, hf, ?_, hs1⟩, fun c2 => ⟨⟨by omega, by omega⟩, fun h5 e5 => ⟨⟨by omega, by omega⟩, ?_⟩⟩⟩⟩⟩
    · rw [ew, wk, if_pos (by omega)]; exact hK1
    · have := e1.trans HR1.1.1; omega
    · refine Or.inr ⟨by omega, ?_, ?_⟩
      · rw [ew]
        have m := wk_mono (π := π) (f' + 1) true i y sT sB α'
        rcases hK1 with k | k
        · have := k.1.1; omega
        · omega
      · rcases hK1 with k | k
        · have k2 := k.2.1
          rcases Int.lt_or_le 100 (α' 0 2) with w | w
          · rw [k.2.2.1.2 w]; decide
          · rw [k.2.2.1.1 w]; omega
        · exact k.2.2
    rw [tn_c]
    intro x8 e8 _ _
    have hi : i < y := by omega
    have hi0 : (i : Int) < π 0 0 := by omega
    have K1 : WKh π α' v h1 := by
      rcases hK1 with k | k
      · exact k
      · omega
    have K5 := WKh_st hv K1 e2 e5
    have hb5 := hb_i hb1 e5
    have f5 : fr (WW v) h1 h5 := fr_i fr_0 e5 (Or.inl ⟨rfl, Nat.le_refl _⟩)
    have HR5 := RPc_w v24 HR1 P f5
    have e8' : x8 = π 1 i := e8.trans (lkh h5 i HR5 hi0).2
    have e58 : h5.2.1 9 8 = x2 + 1 := mv_i e5
    have s0 := wk_st_0 (α := α')
    have s1 : wk_st α' 0 1 = α' 0 1 := wk_st_o (by omega)
    have s2 : wk_st α' 0 2 = α' 0 2 := wk_st_o (by omega)
    have KB := K1.2.1
    generalize eα : wk_st α' = α5 at K5 s0 s1 s2
    have a00 : α5 0 0 ≤ 2001 := by have := K5.1.1; omega
    -- the next turn
    have nxt : ∀ (h2 : ah_T) (k : Nat) (α2 : pm_T), i ≤ k → k < y → RG π true d (k + 1) y → RPc π v h2 → fr (WW v) h5 h2 → WKp π α2 v h2 → wk π (f' + 1) true i y sT sB α' = wk π f' true (k + 1) y sT sB α2 → h2.2.1 9 8 ≤ 2001 + 4004 * (d : Int) → ((-2147483648 ≤ (k : Int) + 1 ∧ (k : Int) + 1 ≤ 2147483647) ∧ (∃ (i f : Nat) (α' : pm_T), (k : Int) + 1 = (i : Int) ∧ x ≤ i ∧ RPc π v h2 ∧ RG π true d i y ∧ y + 1 ≤ f + i ∧ fr (WW v) hh h2 ∧ WKp π α' v h2 ∧ wk π F true x y sT sB α = wk π f true i y sT sB α' ∧ (h2.2.1 9 8 ≤ hh.2.1 9 8 ∨ h2.2.1 9 8 ≤ 2001 + 4004 * (d : Int))) ∧ y - ((k : Int) + 1).toNat < y - (i : Int).toNat) := by
      intro h2 k α2 hik hky r2 HR2 f2 K2 ew2 hs2
      exact ⟨⟨by omega, by omega⟩, ⟨k + 1, f', α2, by omega, by omega, HR2, r2, by omega, fr_t (fr_t hf f5 (fun _ _ w => w)) f2 (fun _ _ w => w), K2, ew.trans ew2, Or.inr hs2⟩, by omega⟩
    unfold B_Parts_walkThrough_212
    rcases RG_t R1 hi with ⟨hk, r⟩ | ⟨hk, r⟩ | ⟨d', rfl, hk, hl, r1, r2⟩ | ⟨d', cc, rfl, hk, r1, r2⟩
    · -- an event
      have ew2 : wk π (f' + 1) true i y sT sB α' = wk π f' true (i + 1) y sT sB (wk_ev π i sT sB α5) := by
        rw [wk, if_neg (by omega), if_neg (by omega), if_neg (by omega), if_neg (by omega), if_pos hk, eα]
      refine ⟨fun q => by omega, fun _ => ⟨fun q => by omega, fun _ => ⟨fun q => by omega, fun _ x10 e10 _ _ => ?_⟩⟩⟩
      have e10' : x10 = α5 0 1 := e10.trans K5.1.2.1
      subst e10'
      refine ⟨⟨by omega, by omega⟩, fun h12 e12 => ?_⟩
      have f12 : fr (WW v) h5 h12 := fr_i fr_0 e12 (Or.inl ⟨rfl, by decide⟩)
      have evn : ¬ (α5 0 3 = 0 ∧ α5 0 1 < 300) → _ := fun hc => nxt h12 i (wk_ev π i sT sB α5) (Nat.le_refl _) hi r (RPc_w v24 HR5 P f12) f12 (Or.inl (WKh_evn (j := i) (sT := sT) (sB := sB) hv K5 (by omega) hc e12)) ew2 (by rw [mm_i e12 (by omega), e58]; omega)
      refine ⟨fun q => evn (fun w => by omega), fun q x15 e15 _ => ?_⟩
      have e15' : x15 = (if α5 0 3 = 0 then 1 else 0) := by rw [e15, mm_i e12 (by omega)]; exact K5.1.2.2.2
      refine ⟨fun q2 => evn (fun w => by rw [if_pos w.1] at e15'; omega), fun q2 x17 e17 _ _ => ?_⟩
      have c3 : α5 0 3 = 0 := by
        by_cases w : α5 0 3 = 0
        · exact w
        · rw [if_neg w] at e15'; exact absurd e15' q2
      have hc : α5 0 3 = 0 ∧ α5 0 1 < 300 := ⟨c3, by omega⟩
      have We := K5.2.2.2 ⟨c3, by omega⟩
      have E := (HR5.2.2 i hi0).2.1 hk
      have V := (P.2.2 i hi0).2.1 hk
      have pb := P.1
      obtain ⟨e, he⟩ : ∃ e : Nat, α5 0 1 = (e : Int) := ⟨(α5 0 1).toNat, by omega⟩
      obtain ⟨b, hbn⟩ : ∃ b : Nat, π 18 i = (b : Int) := ⟨(π 18 i).toNat, by have := V.2.1; omega⟩
      obtain ⟨bars, hba⟩ : ∃ bars : Nat, h5.2.1 v 16 = (bars : Int) := ⟨(h5.2.1 v 16).toNat, by
        rcases Int.lt_or_le 100 (α5 0 2) with w | w
        · rw [K5.2.2.1.2 w]; rfl
        · rw [K5.2.2.1.1 w]; omega⟩
      have eb : (π 18 i).toNat = b := by rw [hbn]; exact tn_c b
      have ee : (α5 0 1).toNat = e := by rw [he]; exact tn_c e
      have e17' : x17 = (b : Int) := by rw [e17, mm_i e12 (by omega), E.1.1, hbn]
      subst e17'
      have We3 := We.2.2.1
      rw [ee] at We3
      have E' := E.1
      rw [eb] at E'
      refine con_mono (t_Voice_addEvent (e := e) (b := b) (bars := bars) (n := π 2 i) (d := π 3 i) (nT := α5 0 4) (nB := α5 0 5) hv (hb_i hb5 e12) (by rw [mm_i e12 (by omega), We.1, he]) (by omega) (by have := V.2.1; omega) (by rw [mm_i e12 (by omega)]; exact E'.2.1) V.1.1 (by rw [mm_i e12 (by omega)]; exact E'.2.2.1) V.1.2.1 (by rw [mm_i e12 (by omega)]; exact hba) ⟨hT.1, by omega⟩ ⟨hB.1, by omega⟩ (by rw [mm_io e12]; exact We3.1) (by rw [mm_io e12]; exact We3.2) ⟨We.2.1.1, We.2.1.2.1, We.2.1.2.2.1, We.2.1.2.2.2⟩) ?_
      rintro r' h18 ⟨z, lT, lB, rfl, hb18, f18, eT, eB, hp, g1, g2, g3⟩
      refine ⟨z, rfl, hb18, ?_, fun h21 e21 => ?_⟩
      · by_cases w : isFr lT lB = true
        · exact Or.inl (g2 w)
        · rw [(g3 w).2.2.2]; split <;> omega
      · have K21 := WKh_evy (π := π) (j := i) (sT := sT) (sB := sB) hv K5 (by omega) hc ⟨hi0, hk⟩ he hba e12 f18 eT eB hp ⟨by rw [g1.1, hbn], g1.2⟩ g2 g3 e21
        have f21 : fr (WW v) h5 h21 := fr_i (fr_t f12 f18 (fun a k w => by omega)) e21 (Or.inl ⟨rfl, by decide⟩)
        exact nxt h21 i (wk_ev π i sT sB α5) (Nat.le_refl _) hi r (RPc_w v24 HR5 P f21) f21 (Or.inl K21) ew2 (by rw [mm_i e21 (by omega), fr_g f18 (by omega), mm_i e12 (by omega), e58]; omega)
    · -- a |
      have ew2 : wk π (f' + 1) true i y sT sB α' = wk π f' true (i + 1) y sT sB (wk_ln α5) := by
        rw [wk, if_neg (by omega), if_neg (by omega), if_neg (by omega), if_pos hk, eα]
      refine ⟨fun q => by omega, fun _ => ⟨fun q => by omega, fun _ => ⟨fun _ => ?_, fun q => by omega⟩⟩⟩
      obtain ⟨l, hl⟩ : ∃ l : Nat, α5 0 2 = (l : Int) := ⟨(α5 0 2).toNat, by omega⟩
      obtain ⟨bars, hba, hb102⟩ : ∃ bars : Nat, h5.2.1 v 16 = (bars : Int) ∧ (l < 100 → bars < 102) := by
        rcases Int.lt_or_le 100 (α5 0 2) with w | w
        · exact ⟨101, by rw [K5.2.2.1.2 w]; rfl, fun _ => by decide⟩
        · exact ⟨l + 1, by rw [K5.2.2.1.1 w]; omega, fun _ => by omega⟩
      refine con_mono (t_Parts_meetLine (b := bars) (l := l) hv hb5 (by rw [K5.1.2.2.1, hl]) (by omega) hba hb102) ?_
      rintro r' h23 ⟨rfl, hb23, f23, g1, g2, g3⟩
      have K23 := WKh_ln hv K5 (by omega) hl hba f23 g1 g2 g3
      have fw : fr (WW v) h5 h23 := fr_w f23 (fun a k w => by omega)
      exact ⟨rfl, hb23, nxt h23 i (wk_ln α5) (Nat.le_refl _) hi r (RPc_w v24 HR5 P fw) fw (Or.inl K23) ew2 (by rw [fr_g f23 (by omega), e58]; omega)⟩
    · -- a {
      obtain ⟨A, -⟩ := IH d' rfl
      have hl2 := (RG_le r2).1
      have V := (P.2.2 i hi0).2.2 hk
      have E := (HR5.2.2 i hi0).2.2 hk
      have bs := bq_s d' (by omega)
      have ew2 : wk π (f' + 1) true i y sT sB α' = wk π f' true (lk π i + 1) y sT sB (wk π f' true (i + 1) (lk π i) (sT * π 3 i) (sB * π 2 i) α5) := by
        rw [wk, if_neg (by omega), if_neg (by omega), if_pos hk, eα]
      refine ⟨fun q => by omega, fun _ => ⟨fun _ => ⟨⟨by omega, by omega⟩, ?_⟩, fun q => by omega⟩⟩
      intro x28 e28 _ _
      have e28' : x28 = (lk π i : Int) := e28.trans (lkh h5 i HR5 hi0).1
      subst e28'
      refine ⟨⟨by omega, by omega⟩, fun x31 e31 _ _ x32 e32 => ?_⟩
      have e31' : x31 = π 3 i := e31.trans E.2
      subst e31'
      have m1 : 1 ≤ sT * π 3 i ∧ sT * π 3 i ≤ bq (d' + 1) * 16 := ⟨by have := Int.mul_le_mul hT.1 V.2.1 (by decide) (by omega); omega, Int.mul_le_mul hT.2 V.2.2 (by omega) (by omega)⟩
      refine ⟨⟨by omega, by omega⟩, fun x35 e35 _ _ x36 e36 => ?_⟩
      have e35' : x35 = π 2 i := e35.trans E.1
      subst e35'
      have m2 : 1 ≤ sB * π 2 i ∧ sB * π 2 i ≤ bq (d' + 1) * 16 := ⟨by have := Int.mul_le_mul hB.1 V.1.1 (by decide) (by omega); omega, Int.mul_le_mul hB.2 V.1.2 (by omega) (by omega)⟩
      have bu' := bq_u d' (by omega)
      refine ⟨⟨by omega, by omega⟩, ?_⟩
      obtain ⟨dd', rfl⟩ : ∃ dd', dd = dd' + 1 := ⟨dd - 1, by omega⟩
      rw [← e32, ← e36] at ew2
      refine con_mono (A dd' (i + 1) (lk π i) f' _ _ _ x32 x36 α5 h5 (by omega) (by omega) rfl (by omega) hb5 HR5 r1 (by omega) (by omega) ⟨by omega, by omega⟩ ⟨by omega, by omega⟩ (Or.inl K5)) ?_
      rintro r' h38 ⟨rfl, hb38, f38, K38, s38⟩
      have HR38 := RPc_w v24 HR5 P f38
      refine ⟨rfl, hb38, fun x42 e42 _ _ x43 e43 _ _ => ?_⟩
      have e42' : x42 = (lk π i : Int) := e42.trans (lkh h38 i HR38 hi0).1
      have e43' : x43 = (lk π i : Int) := by rw [e43, e42', if_pos (by omega)]
      subst e43'
      exact nxt h38 (lk π i) _ (by omega) (by omega) r2 HR38 f38 K38 ew2 (by omega)
    · -- a [
      obtain ⟨-, Bw⟩ := IH d' rfl
      have hl1 := (RG_le r1).2 rfl
      have hl2 := (RG_le r2).1
      have bs := bq_s d' (by omega)
      have bu' := bq_u (d' + 1) (by omega)
      have ew2 : wk π (f' + 1) true i y sT sB α' = wk π f' true (cc + 1) y sT sB (wkR π f' i sT sB α5) := by
        rw [wk, if_neg (by omega), if_pos hk, cls_ok r1 rfl f' (by omega), eα]; rfl
      refine ⟨fun _ => ?_, fun q => by omega⟩
      obtain ⟨dd', rfl⟩ : ∃ dd', dd = dd' + 1 := ⟨dd - 1, by omega⟩
      refine con_mono (Bw dd' i cc f' _ _ sT sB α5 h5 (by omega) rfl (by omega) hb5 HR5 r1 (by omega) (by omega) ⟨hT.1, by omega⟩ ⟨hB.1, by omega⟩ (Or.inl K5) (by omega)) ?_
      rintro r' h44 ⟨z, rfl, rfl, hb44, f44, K44, s44⟩
      refine ⟨_, rfl, hb44, fun x47 e47 _ _ => ?_⟩
      have e47' : x47 = (cc : Int) := by rw [e47, if_pos (by omega)]
      subst e47'
      exact nxt h44 cc _ (by omega) (by omega) r2 (RPc_w v24 HR5 P f44) f44 K44 ew2 (by omega)
  · unfold B_Parts_walkThrough_0
    exact ⟨fun _ => ⟨x, F, α, rfl, Nat.le_refl _, HR, R, hF, fr_0, hK, rfl, Or.inl (Int.le_refl _)⟩, fun c => by omega⟩
theorem t_AWk {G : cx_T} {s v : Nat} {π : pm_T} (hv : isV v) (P : PW π) (hz : π 0 0 ≤ 2000) : ∀ d, d < 8 → AWk G s v π d
  | 0, hd => t_AW1 hv P hz hd (fun d' e => by omega)
  | d + 1, hd => t_AW1 hv P hz hd (fun d' e => by
      have e' : d' = d := by omega
      subst e'
      have A := t_AWk (G := G) (s := s) hv P hz d' (by omega)
      exact ⟨A, t_BWk hv P hz (by omega) A⟩)

/-! ===== the WALK, class: into a voice ===== -/
/-- a voice told -/
def TW (π : pm_T) (v : Nat) (h : ah_T) : Prop := WKe π (walk π) v h ∧ (0 ≤ walk π 0 1 ∧ walk π 0 1 ≤ 300) ∧ (0 ≤ walk π 0 2 ∧ walk π 0 2 ≤ 100) ∧ h.2.1 v 16 = walk π 0 2 + 1 ∧ h.2.1 (v + 13) ((walk π 0 2).toNat + 1) = walk π 0 1
theorem WKe_f {π α : pm_T} {v : Nat} {h h' : ah_T} {W : Nat → Nat → Prop} (H : WKe π α v h) (f : fr W h h') (hW : ∀ (a k : Nat), W a k → a < v ∨ (a = v + 13 ∧ α 0 2 < (k : Int))) : WKe π α v h' := by
  have g : ∀ (a k : Nat), v ≤ a → ¬ (a = v + 13 ∧ α 0 2 < k) → h'.2.1 a k = h.2.1 a k := fun a k q q2 => fr_g f (fun w => by have := hW a k w; omega)
  have gl : ∀ (a k : Nat), v ≤ a → a ≠ v + 13 → h'.2.2.1 a k = h.2.2.1 a k := fun a k q q2 => fr_gl f (fun w => by have := hW a k w; omega)
  obtain ⟨h1, h2, h3, h4, h5⟩ := H
  refine ⟨by rw [g _ _ (Nat.le_refl _) (by omega)]; exact h1, h2, by rw [gl _ _ (by omega) (by omega), gl _ _ (by omega) (by omega)]; exact h3, fun e he => ?_, fun hl b hb => ?_⟩
  · have := h4 e he
    unfold EVh at this ⊢
    rw [g _ _ (by omega) (by omega), g _ _ (by omega) (by omega), gl _ _ (by omega) (by omega), gl _ _ (by omega) (by omega), gl _ _ (by omega) (by omega), gl _ _ (by omega) (by omega)]
    exact this
  · rw [g _ _ (by omega) (by omega)]; exact h5 hl b hb
theorem t_Parts_walkInto {G : cx_T} {s v : Nat} {π : pm_T} {h : ah_T} (hv : isV v) (hb0 : hb s h) (H : RPc π v h) (P : PW π) (hz : π 0 0 ≤ 2000) (R : RG π true 7 0 (sz π)) : con G 21 0 0 m_Parts_walkInto [av_R (some 9), av_R (some v)] h (fun r h' => ∃ z, r = some (av_I z) ∧ hb s h' ∧ fr (WW v) h h' ∧ z = wkF π ∧ (z = 0 → RPc π v h' ∧ TW π v h')) := by
  have v24 := isV_24 hv
  have p0 := P.1.1
  have esz : (sz π : Int) = π 0 0 := by unfold sz; omega
  refine c_Parts_walkInto hv hb0 ?_
  unfold B_Parts_walkInto_0
  refine con_mono (t_Voice_beginWalk hv hb0) ?_
  rintro r h1 ⟨rfl, hb1, f1, g14, g16, l9, l10, g13⟩
  refine ⟨rfl, hb1, fun h4 e4 h6 e6 h8 e8 h10 e10 x12 e12 _ _ => ?_⟩
  have f10 : fr (WW v) h h10 := fr_i (fr_i (fr_i (fr_i f1 e4 (Or.inl ⟨rfl, by decide⟩)) e6 (Or.inl ⟨rfl, by decide⟩)) e8 (Or.inl ⟨rfl, by decide⟩)) e10 (Or.inl ⟨rfl, by decide⟩)
  have hb10 := hb_i (hb_i (hb_i (hb_i hb1 e4) e6) e8) e10
  have H10 := RPc_w v24 H P f10
  have q : ∀ a k, a ≠ 9 → h10.2.1 a k = h1.2.1 a k := fun a k qa => by rw [mm_i e10 (by omega), mm_i e8 (by omega), mm_i e6 (by omega), mm_i e4 (by omega)]
  have ql : ∀ a k, h10.2.2.1 a k = h1.2.2.1 a k := fun a k => by rw [mm_io e10, mm_io e8, mm_io e6, mm_io e4]
  have z0 : ∀ a k, ¬ (a = 0 ∧ k = 5) → wk0 a k = 0 := fun a k qa => by unfold wk0; rw [up2_o qa]
  have z5 : wk0 0 5 = 1 := by unfold wk0; rw [up2_at]
  have K10 : WKh π wk0 v h10 := by
    unfold WKh WKe
    rw [z0 0 0 (by omega), z0 0 1 (by omega), z0 0 2 (by omega), z0 0 3 (by omega), z0 0 4 (by omega), z5]
    refine ⟨⟨?_, ?_, ?_, mv_i e10⟩, by omega, ⟨fun _ => (q _ _ (by omega)).trans g16, fun w => by omega⟩, fun _ => ⟨(q _ _ (by omega)).trans g14, by omega, ⟨(ql _ _).trans l9, (ql _ _).trans l10⟩, fun e he => by omega, fun _ b hb => ?_⟩⟩
    · rw [mm_i e10 (by omega), mm_i e8 (by omega), mm_i e6 (by omega), mv_i e4]
    · rw [mm_i e10 (by omega), mm_i e8 (by omega), mv_i e6]
    · rw [mm_i e10 (by omega), mv_i e8]
    · have : b = 0 := by omega
      subst this
      rw [q _ _ (by omega), g13, z0 7 0 (by omega)]; exact ⟨rfl, Int.le_refl _, Int.le_refl _⟩
  have e12' : x12 = (sz π : Int) := by rw [e12, H10.1.1, esz]
  refine con_mono (t_AWk (G := G) (s := s) hv P hz 7 (by decide) 19 0 (sz π) 5000 0 x12 0 1 1 wk0 h10 (by decide) rfl e12' (by decide) hb10 H10 R (Nat.le_refl _) (by omega) ⟨by decide, by decide⟩ ⟨by decide, by decide⟩ (Or.inl K10)) ?_
  rintro r h13 ⟨rfl, hb13, f13, K13, -⟩
  have ewalk : wk π 5000 true 0 (sz π) 1 1 wk0 = walk π := rfl
  rw [ewalk] at K13
  obtain ⟨b, hb16⟩ : ∃ b : Nat, h13.2.1 v 16 = (b : Int) := ⟨(h13.2.1 v 16).toNat, by
    rcases K13 with k | k
    · have k2 := k.2.1
      rcases Int.lt_or_le 100 (walk π 0 2) with w | w
      · rw [k.2.2.1.2 w]; rfl
      · rw [k.2.2.1.1 w]; omega
    · omega⟩
  refine ⟨rfl, hb13, ?_⟩
  refine con_mono (t_Voice_endWalk hv hb13 hb16) ?_
  rintro r h16 ⟨rfl, hbx, f16, gE⟩
  have fx := fr_t (fr_t f10 f13 (fun _ _ w => w)) f16 (fun a k w => by omega)
  have H16 := RPc_w v24 H P fx
  have c8 : h16.2.1 9 8 = h13.2.1 9 8 := fr_g f16 (by omega)
  refine ⟨rfl, hbx, fun x19 e19 _ _ => ?_⟩
  unfold B_Parts_walkInto_70 B_Parts_walkInto_85
  rcases K13 with k | ⟨k1, k2, -⟩
  · obtain ⟨⟨a1, a2, a3, a4⟩, a5, a6, a7⟩ := k
    have e19' : x19 = walk π 0 0 := by rw [e19, c8, a1]
    refine ⟨fun c => ⟨3, rfl, hbx, fx, by unfold wkF; rw [if_pos (by omega)], fun w => absurd w (by decide)⟩, fun c x20 e20 _ _ => ?_⟩
    have e20' : x20 = walk π 0 1 := by rw [e20, fr_g f16 (by omega), a2]
    refine ⟨fun c2 => ⟨3, rfl, hbx, fx, by unfold wkF; rw [if_pos (by omega)], fun w => absurd w (by decide)⟩, fun c2 x21 e21 _ _ => ?_⟩
    have e21' : x21 = walk π 0 2 := by rw [e21, fr_g f16 (by omega), a3]
    refine ⟨fun c3 x22 e22 _ => ?_, fun c3 => ⟨3, rfl, hbx, fx, by unfold wkF; rw [if_pos (by omega)], fun w => absurd w (by decide)⟩⟩
    have e22' : x22 = (if walk π 0 3 = 0 then 1 else 0) := by rw [e22, fr_g f16 (by omega), a4]
    have n3 : ¬ (2000 < walk π 0 0 ∨ 300 < walk π 0 1 ∨ 100 < walk π 0 2) := by omega
    refine ⟨fun c4 => ⟨6, rfl, hbx, fx, ?_, fun w => absurd w (by decide)⟩, fun c4 => ⟨0, rfl, hbx, fx, ?_, fun _ => ⟨H16, ?_⟩⟩⟩
    · have : ¬ walk π 0 3 = 0 := fun w => by rw [if_pos w] at e22'; omega
      unfold wkF; rw [if_neg n3, if_neg this]
    · have : walk π 0 3 = 0 := by
        by_cases w : walk π 0 3 = 0
        · exact w
        · rw [if_neg w] at e22'; exact absurd e22' c4
      unfold wkF; rw [if_neg n3, if_pos this]
    · have w3 : walk π 0 3 = 0 := by
        by_cases w : walk π 0 3 = 0
        · exact w
        · rw [if_neg w] at e22'; exact absurd e22' c4
      have We := a7 ⟨w3, by omega⟩
      have hb' : (b : Int) = walk π 0 2 + 1 := by have := a6.1 (by omega); omega
      have eb : (walk π 0 2).toNat + 1 = b := by omega
      refine ⟨WKe_f We f16 (fun a k w => Or.inr ⟨w.1, by omega⟩), by omega, by omega, ?_, ?_⟩
      · rw [fr_g f16 (by omega), hb16, hb']
      · rw [eb, gE (by omega)]; exact We.1
  · refine ⟨fun c => ⟨3, rfl, hbx, fx, by unfold wkF; rw [if_pos (by omega)], fun w => absurd w (by decide)⟩, fun c => by omega⟩

/-! ===== the class: a voice told in the score's memory ===== -/
def sgm (μ : pm_T) (R e : Nat) : Nat → Int
  | 0 => 0
  | n + 1 => sgm μ R e n + sgk (μ (R + (10 + n)) e) (μ (R + (20 + n)) e)
def RVe (μ : pm_T) (R v e : Nat) (h : ah_T) : Prop := ∃ b q : Nat, b < 300 ∧ h.2.1 (v + 7) e = b ∧ h.2.1 (v + 8) e = μ (R + 6) e ∧ (h.2.2.1 (v + 9) e = μ (R + 0) e ∧ h.2.2.1 (v + 10) e = μ (R + 1) e ∧ h.2.2.1 (v + 11) e = μ (R + 2) e ∧ h.2.2.1 (v + 12) e = μ (R + 3) e) ∧ (h.2.1 (v + 3) b = q ∧ h.2.1 (v + 3) (b + 1) = q + μ (R + 4) e) ∧ (h.2.1 (v + 6) b = μ (R + 5) e ∧ h.2.1 (v + 4) b = μ (R + 7) e ∧ h.2.1 (v + 5) b = μ (R + 8) e) ∧
  (∀ p : Nat, (p : Int) < μ (R + 4) e → h.2.1 (v + 1) (q + p) = μ (R + (10 + p)) e ∧ h.2.1 (v + 2) (q + p) = μ (R + (20 + p)) e)
/-- what holds of an event in the memory -/
def MVe (μ : pm_T) (R e : Nat) : Prop := (0 ≤ μ (R + 4) e ∧ μ (R + 4) e ≤ 4) ∧ (μ (R + 5) e = 0 ∨ μ (R + 5) e = 1) ∧ (1 ≤ μ (R + 7) e ∧ μ (R + 7) e ≤ 64) ∧ (0 ≤ μ (R + 8) e ∧ μ (R + 8) e ≤ 3) ∧ (0 ≤ μ (R + 0) e ∧ μ (R + 0) e ≤ 1000 * μ (R + 1) e ∧ 1 ≤ μ (R + 1) e ∧ μ (R + 1) e ≤ 1000000) ∧ (1 ≤ μ (R + 2) e ∧ μ (R + 2) e ≤ 1000 * μ (R + 3) e ∧ 1 ≤ μ (R + 3) e ∧ μ (R + 3) e ≤ 1000000) ∧ (∀ p : Nat, (p : Int) < μ (R + 4) e → (-2 ≤ μ (R + (10 + p)) e ∧ μ (R + (10 + p)) e ≤ 109) ∧ 0 ≤ μ (R + (20 + p)) e ∧ μ (R + (20 + p)) e ≤ 62) ∧ μ (R + 9) e = sgm μ R e (μ (R + 4) e).toNat
def RVo (μ : pm_T) (n v : Nat) (h : ah_T) : Prop := (h.2.1 v 14 = μ (10 + n) 0 ∧ h.2.1 v 16 = μ (10 + n) 1) ∧ (h.2.2.1 (v + 9) (μ (10 + n) 0).toNat = μ (100 + 40 * n + 31) 0 ∧ h.2.2.1 (v + 10) (μ (10 + n) 0).toNat = μ (100 + 40 * n + 31) 1) ∧ (∀ e : Nat, (e : Int) < μ (10 + n) 0 → RVe μ (100 + 40 * n) v e h) ∧ (∀ b : Nat, (b : Int) < μ (10 + n) 1 → h.2.1 (v + 13) b = μ (100 + 40 * n + 30) b) ∧ h.2.1 (v + 13) (μ (10 + n) 1).toNat = μ (10 + n) 0
def MVo (μ : pm_T) (n : Nat) : Prop := (0 ≤ μ (10 + n) 0 ∧ μ (10 + n) 0 ≤ 300) ∧ (1 ≤ μ (10 + n) 1 ∧ μ (10 + n) 1 ≤ 101) ∧ (0 ≤ μ (100 + 40 * n + 31) 0 ∧ μ (100 + 40 * n + 31) 0 ≤ 1000 * μ (100 + 40 * n + 31) 1 ∧ 1 ≤ μ (100 + 40 * n + 31) 1 ∧ μ (100 + 40 * n + 31) 1 ≤ 1000000) ∧ (∀ e : Nat, (e : Int) < μ (10 + n) 0 → MVe μ (100 + 40 * n) e) ∧ ∀ b : Nat, (b : Int) < μ (10 + n) 1 → 0 ≤ μ (100 + 40 * n + 30) b ∧ μ (100 + 40 * n + 30) b ≤ μ (10 + n) 0
theorem addV_i {μ π α : pm_T} {n w k : Nat} (hn : n = (μ 0 7).toNat) (hw : w < 40) : addV μ π α (100 + 40 * n + w) k = (if w < 4 then α (3 + w) k else if w = 4 then π 5 (α 1 k).toNat else if w = 5 then π 4 (α 1 k).toNat else if w = 6 then α 2 k else if w = 7 then π 2 (α 1 k).toNat else if w = 8 then π 3 (α 1 k).toNat else if w = 9 then π 17 (α 1 k).toNat else if 10 ≤ w ∧ w < 14 then π (w - 4) (α 1 k).toNat else if 20 ≤ w ∧ w < 24 then π (w - 10) (α 1 k).toNat else if w = 30 then α 7 k else if w = 31 then α 0 (4 + k) else 0) := by
  unfold addV
  rw [← hn, if_neg (by omega), if_neg (by omega), if_neg (by omega), if_pos (by omega)]
  have : 100 + 40 * n + w - (100 + 40 * n) = w := by omega
  dsimp only
  rw [this]
theorem addV_n {μ π α : pm_T} {n : Nat} (hn : n = (μ 0 7).toNat) : addV μ π α (10 + n) 0 = α 0 1 ∧ addV μ π α (10 + n) 1 = α 0 2 + 1 := by
  unfold addV
  rw [← hn]
  exact ⟨by rw [if_neg (by omega), if_pos ⟨rfl, rfl⟩], by rw [if_neg (by omega), if_neg (by omega), if_pos ⟨rfl, rfl⟩]⟩
/-- the voices of before stay in the memory -/
theorem addV_b {μ π α : pm_T} {n a k : Nat} (hn : n < (μ 0 7).toNat) (ha : a = 10 + n ∨ (100 + 40 * n ≤ a ∧ a < 140 + 40 * n)) (h4 : (μ 0 7).toNat ≤ 4) : addV μ π α a k = μ a k := by
  unfold addV
  rw [if_neg (by omega), if_neg (by omega), if_neg (by omega), if_neg (by omega)]
theorem MVo_w {μ π : pm_T} {v n : Nat} {h : ah_T} (hn : n = (μ 0 7).toNat) (T : TW π v h) (H : RPc π v h) (P : PW π) : RVo (addV μ π (walk π)) n v h ∧ MVo (addV μ π (walk π)) n := by
  obtain ⟨⟨w1, w2, w3, w4, w5⟩, b1, b2, t16, tE⟩ := T
  generalize walk π = α at *
  obtain ⟨n0, n1⟩ := addV_n (π := π) (α := α) hn
  have r : ∀ {w k : Nat}, w < 40 → addV μ π α (100 + 40 * n + w) k = _ := fun {w k} hw => addV_i (π := π) (α := α) (k := k) hn hw
  have r31 : ∀ k, addV μ π α (100 + 40 * n + 31) k = α 0 (4 + k) := fun k => (r (by decide)).trans rfl
  have r30 : ∀ k, addV μ π α (100 + 40 * n + 30) k = α 7 k := fun k => (r (by decide)).trans rfl
  have r0 : ∀ k, addV μ π α (100 + 40 * n + 0) k = α 3 k := fun k => (r (by decide)).trans rfl
  have r1 : ∀ k, addV μ π α (100 + 40 * n + 1) k = α 4 k := fun k => (r (by decide)).trans rfl
  have r2 : ∀ k, addV μ π α (100 + 40 * n + 2) k = α 5 k := fun k => (r (by decide)).trans rfl
  have r3 : ∀ k, addV μ π α (100 + 40 * n + 3) k = α 6 k := fun k => (r (by decide)).trans rfl
  have r4 : ∀ k, addV μ π α (100 + 40 * n + 4) k = π 5 (α 1 k).toNat := fun k => (r (by decide)).trans rfl
  have r5 : ∀ k, addV μ π α (100 + 40 * n + 5) k = π 4 (α 1 k).toNat := fun k => (r (by decide)).trans rfl
  have r6 : ∀ k, addV μ π α (100 + 40 * n + 6) k = α 2 k := fun k => (r (by decide)).trans rfl
  have r7 : ∀ k, addV μ π α (100 + 40 * n + 7) k = π 2 (α 1 k).toNat := fun k => (r (by decide)).trans rfl
  have r8 : ∀ k, addV μ π α (100 + 40 * n + 8) k = π 3 (α 1 k).toNat := fun k => (r (by decide)).trans rfl
  have r9 : ∀ k, addV μ π α (100 + 40 * n + 9) k = π 17 (α 1 k).toNat := fun k => (r (by decide)).trans rfl
  have rk : ∀ p k, p < 4 → addV μ π α (100 + 40 * n + (10 + p)) k = π (6 + p) (α 1 k).toNat ∧ addV μ π α (100 + 40 * n + (20 + p)) k = π (10 + p) (α 1 k).toNat := by
    intro p k hp
    have : p = 0 ∨ p = 1 ∨ p = 2 ∨ p = 3 := by omega
    rcases this with rfl | rfl | rfl | rfl <;> exact ⟨(r (by decide)).trans rfl, (r (by decide)).trans rfl⟩
  refine ⟨⟨⟨by rw [n0]; exact w1, by rw [n1]; exact t16⟩, ?_, fun e he => ?_, fun b hb => ?_, ?_⟩, ⟨by rw [n0]; exact b1, by rw [n1]; omega, ?_, fun e he => ?_, fun b hb => ?_⟩⟩
  · rw [n0, r31, r31]; exact w3
  · rw [n0] at he
    obtain ⟨⟨y1, y2, y3⟩, y4, y5, y6, y7⟩ := w4 e he
    have hj : ((α 1 e).toNat : Int) < π 0 0 := by omega
    have E := (H.2.2 _ hj).2.1 y3
    have V := (P.2.2 _ hj).2.1 y3
    obtain ⟨j, ej⟩ : ∃ j, (α 1 e).toNat = j := ⟨_, rfl⟩
    rw [ej] at E V hj y3 y4
    obtain ⟨⟨c1, c2, c3, c4⟩, c5, c6, c7⟩ := E
    obtain ⟨-, v2, v3, v4, v5, -, -⟩ := V
    have p0 := P.1
    refine ⟨(π 18 j).toNat, (π 19 j).toNat, by omega, by rw [y4]; omega, ?_, ?_, ⟨by rw [c6]; omega, ?_⟩, ⟨?_, ?_, ?_⟩, fun p hp => ?_⟩
    · rw [r6]; exact y5 (by omega)
    · rw [r0, r1, r2, r3]; exact y6
    · rw [r4, ej, c5]; omega
    · rw [r5, ej]; exact c4
    · rw [r7, ej]; exact c2
    · rw [r8, ej]; exact c3
    · rw [r4, ej] at hp
      rw [(rk p e (by omega)).1, (rk p e (by omega)).2, ej]
      exact c7 p hp
  · rw [n1] at hb
    rw [r30]
    exact (w5 b2.2 b (by omega)).1
  · rw [n0, n1]
    have : (α 0 2 + 1).toNat = (α 0 2).toNat + 1 := by omega
    rw [this]; exact tE
  · rw [r31, r31]; exact w2
  · rw [n0] at he
    obtain ⟨⟨y1, y2, y3⟩, y4, y5, y6, y7⟩ := w4 e he
    have hj : ((α 1 e).toNat : Int) < π 0 0 := by omega
    have V := (P.2.2 _ hj).2.1 y3
    unfold MVe
    rw [r0, r1, r2, r3, r4, r5, r7, r8, r9]
    obtain ⟨u1, u2, u3, u4, u5, u6, u7⟩ := V
    refine ⟨u4, u1.2.2, u1.1, u1.2.1, y7.1, y7.2, fun p hp => ?_, ?_⟩
    · rw [(rk p e (by omega)).1, (rk p e (by omega)).2]; exact u6 p hp
    · rw [u7]
      have : ∀ k, k ≤ 4 → sgs π (α 1 e).toNat k = sgm (addV μ π α) (100 + 40 * n) e k := by
        intro k
        induction k with
        | zero => intro _; rfl
        | succ k ih => intro hk; rw [sgs, sgm, ih (by omega), (rk k e (by omega)).1, (rk k e (by omega)).2]
      exact this _ (by omega)
  · rw [n1] at hb
    rw [r30, n0]
    exact (w5 b2.2 b (by omega)).2
