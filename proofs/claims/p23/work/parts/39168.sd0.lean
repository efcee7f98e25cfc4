/-! ===== sample: what its doubles are ===== -/
theorem mlb {x y X Y : Int} (h1 : 0 ≤ x) (h2 : x ≤ X) (h3 : 0 ≤ y) (h4 : y ≤ Y) : 0 ≤ x * y ∧ x * y ≤ X * Y := ⟨Int.mul_nonneg h1 h3, Int.mul_le_mul h2 h4 h3 (by omega)⟩
/-- a fraction made short, divided as doubles -/
def dvd (a b : Int) : UInt64 := FP.ddiv (FP.l2d (Int64.ofInt (rdT a b))) (FP.l2d (Int64.ofInt (rdB a b)))
theorem dvd_b {a b : Int} (ha : 0 ≤ a) (hb : 1 ≤ b) (h1 : a ≤ 9223372036854775807) (h2 : b ≤ 9223372036854775807) : fbn (dvd a b) 1 63 ∧ vf_n64 (dvd a b) ∧ (1 ≤ a → flb (dvd a b) 63) := by
  obtain ⟨⟨p1, p2⟩, ⟨p3, p4⟩, -⟩ := rd_pos ha hb
  have x := fp_l2d (rdT a b) (by unfold i64; omega)
  have y := fp_l2d (rdB a b) (by unfold i64; omega)
  have d := fp_div x.1 (y.2 p3) (by decide) (by decide)
  unfold dvd
  refine ⟨d.1, d.2.1, fun q => ?_⟩
  have t := rdT_b q hb
  exact d.2.2 0 63 (by decide) (x.2 t.1) y.1
def cmd (x y : UInt64) : Int := (Op.cmpValue (FP.dcmp x y) .g).toInt
/-- the wave at x -/
def wvx (x : UInt64) : UInt64 := if 0 ≤ cmd x 4598175219545276416 then (if 0 ≤ cmd x 4604930618986332160 then FP.dsub (FP.dmul 4616189618054758400 x) 4616189618054758400 else FP.dsub 4611686018427387904 (FP.dmul 4616189618054758400 x)) else FP.dmul 4616189618054758400 x
theorem wvx_b {x : UInt64} (h : fbn x 1 63) : vf_n64 (FP.dmul 4616189618054758400 x) ∧ vf_n64 (FP.dsub (FP.dmul 4616189618054758400 x) 4616189618054758400) ∧ vf_n64 (FP.dsub 4611686018427387904 (FP.dmul 4616189618054758400 x)) ∧ fbn (wvx x) 1 66 := by
  have m := fp_mul fb_4 h (by decide)
  have s1 := fp_sub m.1 (fbn_T (U := 2 + 63) fb_4 (by decide)) (by decide) (by decide)
  have s2 := fp_sub (fbn_T (U := 2 + 63) fb_2 (by decide)) m.1 (by decide) (by decide)
  refine ⟨m.2, s1.2, s2.2, ?_⟩
  unfold wvx
  split
  · split
    · exact fbn_2 s1.1
    · exact fbn_2 s2.1
  · exact fbn_T m.1 (by decide)
/-- how loud it still is -/
def fad (T B LT LB : Int) : UInt64 := FP.dsub FP.dconst1 (FP.ddiv (dvd T B) (dvd (2 * LT) LB))
theorem fad_b {x y : UInt64} (hx : fbn x 1 63) (hy : flb y 63) : vf_n64 (FP.ddiv x y) ∧ vf_n64 (FP.dsub FP.dconst1 (FP.ddiv x y)) ∧ fbn (FP.dsub FP.dconst1 (FP.ddiv x y)) 1 127 := by
  have d := fp_div hx hy (by decide) (by decide)
  have s := fp_sub (x := FP.dconst1) (fbn_T (U := 63 + 63) fb_1 (by decide)) d.1 (by decide) (by decide)
  exact ⟨d.2.1, s.2, fbn_2 s.1⟩
/-- one sound -/
def snw (w f : UInt64) : UInt64 := FP.dmul (FP.dmul 4598175219545276416 w) f
theorem snw_b {w f : UInt64} (hw : fbn w 1 66) (hf : fbn f 1 127) : vf_n64 (FP.dmul 4598175219545276416 w) ∧ vf_n64 (snw w f) ∧ fbn (snw w f) 1 193 := by
  have a := fp_mul fb_q hw (by decide)
  have b := fp_mul a.1 hf (by decide)
  exact ⟨a.2, b.2, b.1⟩
def rtop (i : Int) : Int := ([1, 16, 9, 6, 5, 4, 45, 3, 8, 5, 9, 15] : List Int).getD i.toNat 0
def rlow (i : Int) : Int := ([1, 15, 8, 5, 4, 3, 32, 2, 5, 3, 5, 8] : List Int).getD i.toNat 0
theorem rt_b {i : Int} (h0 : 0 ≤ i) (h1 : i < 12) : (1 ≤ rtop i ∧ rtop i ≤ 45) ∧ 1 ≤ rlow i ∧ rlow i ≤ 32 := by
  obtain rfl | rfl | rfl | rfl | rfl | rfl | rfl | rfl | rfl | rfl | rfl | rfl : i = 0 ∨ i = 1 ∨ i = 2 ∨ i = 3 ∨ i = 4 ∨ i = 5 ∨ i = 6 ∨ i = 7 ∨ i = 8 ∨ i = 9 ∨ i = 10 ∨ i = 11 := by omega
  all_goals decide
theorem sh8 : ∀ k : Nat, k < 11 → ((Int64.ofInt 8) <<< ((Int32.ofInt (k : Int)).toInt64 &&& 63)).toInt = 8 * 2 ^ k := by decide +kernel
theorem p2b : ∀ k : Nat, k < 11 → (1 : Int) ≤ 2 ^ k ∧ (2 : Int) ^ k ≤ 1024 := by decide +kernel
/-- how often a KEY sounds in a second, times rlow -/
def kto (key : Int) : Int := 8 * 2 ^ (key / 12 + 1).toNat * rtop (key % 12)
theorem kto_b {key : Int} (h0 : -2 ≤ key) (h1 : key ≤ 109) : 8 ≤ kto key ∧ kto key ≤ 368640 := by
  have r := (rt_b (i := key % 12) (by omega) (by omega)).1
  have p := p2b (key / 12 + 1).toNat (by omega)
  unfold kto
  generalize (2 : Int) ^ (key / 12 + 1).toNat = P at *
  generalize rtop (key % 12) = R at *
  have a := Int.mul_le_mul (a := 8 * P) (b := R) (c := 8192) (d := 45) (by omega) r.2 (by omega) (by decide)
  have b := Int.mul_le_mul (a := 8) (b := 1) (c := 8 * P) (d := R) (by omega) r.1 (by decide) (by omega)
  omega
/-- the wave of a KEY at T / B seconds -/
def wvk (key T B : Int) : UInt64 := wvx (dvd (T * kto key % (B * rlow (key % 12))) (B * rlow (key % 12)))
/-- START e is reached -/
def Rch (μ : pm_T) (n e : Nat) (N R : Int) : Prop := 2 * smT μ n e * R ≤ N * smB μ n e
/-- the seconds since START e, times R times its bottom -/
abbrev snT (μ : pm_T) (n e : Nat) (N R : Int) : Int := N * smB μ n e - 2 * smT μ n e * R
abbrev snB (μ : pm_T) (n e : Nat) (R : Int) : Int := R * smB μ n e
/-- the first k sounds of an event, behind a -/
def sdE (μ : pm_T) (n e : Nat) (N R : Int) (a : UInt64) : Nat → UInt64
  | 0 => a
  | k + 1 => FP.dadd (sdE μ n e N R a k) (snw (wvk (ky μ n e k) (snT μ n e N R) (snB μ n e R)) (fad (snT μ n e N R) (snB μ n e R) (μ (100 + 40 * n + 2) e) (μ (100 + 40 * n + 3) e)))
noncomputable def sdV (μ : pm_T) (n : Nat) (N R : Int) (a : UInt64) : Nat → UInt64
  | 0 => a
  | e + 1 => dif (Rch μ n e N R ∧ ¬ Rch μ n (e + 1) N R) (sdE μ n e N R (sdV μ n N R a e) (pt μ n e).toNat) (sdV μ n N R a e)
noncomputable def sdA (μ : pm_T) (N R : Int) : Nat → UInt64
  | 0 => FP.dconst0
  | n + 1 => sdV μ n N R (sdA μ N R n) (μ (10 + n) 0).toNat
/-- what sample answers -/
noncomputable def sdq (μ : pm_T) (N R : Int) : UInt64 := dif (N < 0 ∨ R < 1 ∨ 10000 < R) FP.dconst0 (sdA μ N R (μ 0 7).toNat)
/-- an event that sounds: what is known of its seconds -/
theorem sn_b {μ : pm_T} {n e : Nat} {N R : Int} (GG : GM μ) (hn : (n : Int) < μ 0 7) (hN : 0 ≤ N) (hR : 1 ≤ R ∧ R ≤ 10000) (h1 : Rch μ n e N R) (h2 : ¬ Rch μ n (e + 1) N R) : (0 ≤ snT μ n e N R ∧ snT μ n e N R ≤ 20000000000000) ∧ 1 ≤ snB μ n e R ∧ snB μ n e R ≤ 10000000000 := by
  have b0 := GM_b GG hn e
  have b1 := GM_b GG hn (e + 1)
  unfold Rch at h1 h2
  unfold snT snB
  generalize smT μ n e = t at *
  generalize smB μ n e = b at *
  generalize smT μ n (e + 1) = t1 at *
  generalize smB μ n (e + 1) = c at *
  have hN1 : N < 20000000 := by
    have x1 : 2 * t1 * R ≤ 2 * t1 * 10000 := Int.mul_le_mul_of_nonneg_left hR.2 (by omega)
    have x2 : N * c < 20000000 * c := by omega
    exact Int.lt_of_mul_lt_mul_right x2 (by omega)
  have m1 := mlb hN (by omega : N ≤ 20000000) (by omega : 0 ≤ b) b0.2.2
  have m2 := mlb (by omega : 0 ≤ R) hR.2 (by omega : 0 ≤ b) b0.2.2
  have m3 : 0 ≤ 2 * t * R := Int.mul_nonneg (by omega) (by omega)
  have m4 : 1 * 1 ≤ R * b := Int.mul_le_mul hR.1 b0.2.1 (by decide) (by omega)
  omega
theorem sdE_b {μ : pm_T} {n e : Nat} {N R : Int} {a : UInt64} {M : Nat} (GG : GM μ) (hn : (n : Int) < μ 0 7) (he : (e : Int) < μ (10 + n) 0) (hN : 0 ≤ N) (hR : 1 ≤ R ∧ R ≤ 10000) (h1 : Rch μ n e N R) (h2 : ¬ Rch μ n (e + 1) N R) (ha : fbn a M 193) (hM : M ≤ 9000000) : ∀ k : Nat, (k : Int) ≤ pt μ n e → fbn (sdE μ n e N R a k) (M + k) 193 ∧ ∀ j, j < k → fbn (wvk (ky μ n e j) (snT μ n e N R) (snB μ n e R)) 1 66
  | 0, _ => ⟨ha, fun j hj => absurd hj (Nat.not_lt_zero j)⟩
  | k + 1, hk => by
    have ih := sdE_b GG hn he hN hR h1 h2 ha hM k (by omega)
    have sb := sn_b GG hn hN hR h1 h2
    have M4 := ((GG.2.2 n hn).2.2.2.1 e he)
    have p4 := M4.1
    have L := M4.2.2.2.2.2.1
    have K := (M4.2.2.2.2.2.2.1 k (by unfold pt at hk; omega)).1
    unfold pt at hk
    have rt := rt_b (i := ky μ n e k % 12) (by omega) (by omega)
    have w1 : 1 ≤ snB μ n e R * rlow (ky μ n e k % 12) ∧ snB μ n e R * rlow (ky μ n e k % 12) ≤ 10000000000 * 32 := ⟨by have := Int.mul_le_mul sb.2.1 rt.2.1 (by decide) (by omega : 0 ≤ snB μ n e R); omega, (mlb (by omega) sb.2.2 (by omega) rt.2.2).2⟩
    have w2 := Int.emod_nonneg (snT μ n e N R * kto (ky μ n e k)) (by omega : snB μ n e R * rlow (ky μ n e k % 12) ≠ 0)
    have w3 := Int.emod_lt_of_pos (snT μ n e N R * kto (ky μ n e k)) (by omega : 0 < snB μ n e R * rlow (ky μ n e k % 12))
    have wx : fbn (wvk (ky μ n e k) (snT μ n e N R) (snB μ n e R)) 1 66 := (wvx_b (dvd_b w2 w1.1 (by omega) (by omega)).1).2.2.2
    have d1 := dvd_b sb.1.1 sb.2.1 (by omega) (by omega)
    have d2 := dvd_b (a := 2 * μ (100 + 40 * n + 2) e) (b := μ (100 + 40 * n + 3) e) (by omega) L.2.2.1 (by omega) (by omega)
    have f := fad_b d1.1 (d2.2.2 (by omega))
    have s := snw_b wx f.2.2
    refine ⟨(fp_add ih.1 s.2.2 (by omega) (by decide)).1, fun j hj => ?_⟩
    by_cases c : j = k
    · rw [c]; exact wx
    · exact ih.2 j (by omega)
theorem sdV_b {μ : pm_T} {n : Nat} {N R : Int} {a : UInt64} {M : Nat} (GG : GM μ) (hn : (n : Int) < μ 0 7) (hN : 0 ≤ N) (hR : 1 ≤ R ∧ R ≤ 10000) (ha : fbn a M 193) (hM : M ≤ 6000) : ∀ e : Nat, (e : Int) ≤ μ (10 + n) 0 → fbn (sdV μ n N R a e) (M + 4 * e) 193
  | 0, _ => ha
  | e + 1, he => by
    have ih := sdV_b GG hn hN hR ha hM e (by omega)
    have hE := (GG.2.2 n hn).1
    have M4 := ((GG.2.2 n hn).2.2.2.1 e (by omega))
    rw [sdV]
    by_cases c : Rch μ n e N R ∧ ¬ Rch μ n (e + 1) N R
    · rw [dif_t c]
      exact fbn_n (sdE_b GG hn (by omega) hN hR c.1 c.2 ih (by omega) (pt μ n e).toNat (by unfold pt; have := M4.1; omega)).1 (by have := M4.1; unfold pt; omega)
    · rw [dif_f c]
      exact fbn_n ih (by omega)
theorem sdA_b {μ : pm_T} {N R : Int} (GG : GM μ) (hN : 0 ≤ N) (hR : 1 ≤ R ∧ R ≤ 10000) : ∀ n : Nat, (n : Int) ≤ μ 0 7 → fbn (sdA μ N R n) (1 + 1200 * n) 193
  | 0, _ => fbn_T (U := 193) fb_0 (by decide)
  | n + 1, hn => by
    have ih := sdA_b GG hN hR n (by omega)
    have b7 := GG.1.1
    have hE := (GG.2.2 n (by omega)).1
    exact fbn_n (sdV_b GG (by omega) hN hR ih (by omega) (μ (10 + n) 0).toNat (by omega)) (by omega)
/-- two fractions that are one -/
theorem rd_q {a b c d : Int} (hb : 1 ≤ b) (hd : 1 ≤ d) (h : a * d = c * b) : rdT a b = rdT c d ∧ rdB a b = rdB c d := by
  have x := rd_mul (m := a) (n := b) hd
  have y := rd_mul (m := c) (n := d) hb
  rw [← x.1, ← x.2, ← y.1, ← y.2, Int.mul_comm d a, h, Int.mul_comm c b, Int.mul_comm d b]
  exact ⟨rfl, rfl⟩
theorem dvd_q {a b c d : Int} (hb : 1 ≤ b) (hd : 1 ≤ d) (h : a * d = c * b) : dvd a b = dvd c d := by
  obtain ⟨x, y⟩ := rd_q hb hd h
  unfold dvd
  rw [x, y]
/-- what is left of two fractions that are one -/
theorem rem_q {a b c d : Int} (ha : 0 ≤ a) (hc : 0 ≤ c) (hb : 1 ≤ b) (hd : 1 ≤ d) (h : a * d = c * b) : a % b * d = c % d * b := by
  have e1 : a / b = c / d := by
    rw [← Int.mul_ediv_mul_of_pos_left a b (by omega : 0 < d), ← Int.mul_ediv_mul_of_pos_left c d (by omega : 0 < b), h, Int.mul_comm b d]
  have e2 := Int.emod_def a b
  have e3 := Int.emod_def c d
  have e4 : b * (c / d) * d = d * (c / d) * b := by rw [Int.mul_comm (b * (c / d)) d, Int.mul_comm b (c / d), ← Int.mul_assoc]
  rw [e2, e3, Int.sub_mul, Int.sub_mul, h, e1, e4]
