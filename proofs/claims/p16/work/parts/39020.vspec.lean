/-! ===== what a text means: the parts of a voice =====
rows of the memory of parts: 0: size, depth, admitted, sounds, pitches; 1 kinds; 2 number or a; 3 dots or b; 4 tied; 5 how many pitches; 6..9 keys; 10..13 steps; 14 links; 15 opened; 16 last mark; 17 signs; 18 number of the sound; 19 pitches ahead of it -/
def sz (π : pm_T) : Nat := (π 0 0).toNat
def dp (π : pm_T) : Nat := (π 0 1).toNat
def sp_adm (t : tk_T) (i : Nat) (π : pm_T) : F_T ⊕ pm_T := if π 0 2 < 300 then .inr (up2 π 0 2 (π 0 2 + 1)) else .inl (3, tP t i)
def pch (t : tk_T) (i : Nat) (g : Int) (π : pm_T) : pm_T := up2 (up2 (up2 (up2 (up2 π (6 + (π 5 (sz π)).toNat) (sz π) (tV' t i)) (10 + (π 5 (sz π)).toNat) (sz π) (tS t i)) 17 (sz π) (π 17 (sz π) + g)) 5 (sz π) (π 5 (sz π) + 1)) 0 4 (π 0 4 + 1)
def snd0 (π : pm_T) : pm_T := up2 (up2 (up2 π 5 (sz π) 0) 17 (sz π) 0) 19 (sz π) (π 0 4)
/-- how many # and b a PITCH has, by its KEY and STEP -/
def sgk (v st : Int) : Int := if 0 ≤ v - (12 * (st / 7) + wh ((st % 7 + 2) % 7 + 65)) then v - (12 * (st / 7) + wh ((st % 7 + 2) % 7 + 65)) else -(v - (12 * (st / 7) + wh ((st % 7 + 2) % 7 + 65)))
def sgt (t : tk_T) (i : Nat) : Int := sgk (tV' t i) (tS t i)
def sp_chord (t : tk_T) : Nat → Nat → pm_T → F_T ⊕ (Nat × pm_T)
  | 0, _, _ => .inl (1, 0)
  | f + 1, i, π => if tK t i = 258 then (if π 5 (sz π) = 4 then .inl (3, tP t i) else if 0 < π 5 (sz π) ∧ tV' t i ≤ π (5 + (π 5 (sz π)).toNat) (sz π) then .inl (if π 0 2 < 300 then 4 else 3, tP t i) else
      bnd (sp_adm t i π) fun π1 => if tK t (i + 1) = 62 then .inr (i + 2, pch t i (sgt t i) π1) else sp_chord t f (i + 1) (pch t i (sgt t i) π1)) else .inl (cn t i)
def sp_sound (t : tk_T) (i : Nat) (π : pm_T) : F_T ⊕ (Nat × pm_T) :=
  if tK t i = 266 then bnd (sp_adm t i (snd0 π)) fun π1 => .inr (i + 1, π1)
  else if tK t i = 258 then bnd (sp_adm t i (snd0 π)) fun π1 => .inr (i + 1, pch t i (sgt t i) π1)
  else sp_chord t 5 (i + 1) (snd0 π)
def sp_dots (t : tk_T) : Nat → Nat → Int → F_T ⊕ (Nat × Int)
  | 0, _, _ => .inl (1, 0)
  | f + 1, i, d => if tK t i = 46 then (if d = 3 then .inl (3, tP t i) else sp_dots t f (i + 1) (d + 1)) else .inr (i, d)
def addE (π : pm_T) (n d w : Int) : pm_T := up2 (up2 (up2 (up2 (up2 (up2 (up2 (up2 π 1 (sz π) 256) 2 (sz π) n) 3 (sz π) d) 4 (sz π) w) 14 (sz π) (π 0 0)) 18 (sz π) (π 0 3)) 0 3 (π 0 3 + 1)) 0 0 (π 0 0 + 1)
def sp_event (t : tk_T) (i : Nat) (π : pm_T) : F_T ⊕ (Nat × pm_T) :=
  bnd (sp_sound t i π) fun a => bnd (sp_num t a.1 64 true) fun n => bnd (sp_dots t 4 (a.1 + 1) 0) fun d =>
    if tK t d.1 = 126 then (if tK t i = 266 then .inl (7, tP t d.1) else .inr (d.1 + 1, addE a.2 n d.2 1)) else .inr (d.1, addE a.2 n d.2 0)
/-- a part that isn't an event: kind, two numbers -/
def addP (π : pm_T) (k a b : Int) : pm_T := up2 (up2 (up2 (up2 (up2 π 1 (sz π) k) 2 (sz π) a) 3 (sz π) b) 14 (sz π) (π 0 0)) 0 0 (π 0 0 + 1)
def opn (π : pm_T) : pm_T := up2 (up2 (up2 π 15 (dp π) (π 0 0)) 16 (dp π) (π 0 0)) 0 1 (π 0 1 + 1)
/-- the innermost [ or { -/
def top (π : pm_T) : Nat := (π 15 (dp π - 1)).toNat
def mrk (π : pm_T) : pm_T := up2 (up2 π 14 (π 16 (dp π - 1)).toNat (π 0 0)) 16 (dp π - 1) (π 0 0)
def addM (π : pm_T) (k : Int) : pm_T := if k = 58 then addP (mrk π) k 0 0 else up2 (addP (mrk π) k 0 0) 0 1 (π 0 1 - 1)
def sp_times (t : tk_T) (i : Nat) (π : pm_T) : F_T ⊕ (Nat × pm_T) :=
  bnd (sp_num t (i + 1) 16 false) fun a => bnd (sp_take t (i + 2) 47) fun _ => bnd (sp_num t (i + 3) 16 false) fun b => bnd (sp_take t (i + 4) 58) fun _ => .inr (i + 5, addP (opn π) 123 a b)
def isMk (π : pm_T) (K : Int) : Prop := 0 < π 0 1 ∧ ((K = 58 ∧ π 1 (top π) = 91) ∨ (K = 93 ∧ π 1 (top π) = 91) ∨ (K = 125 ∧ π 1 (top π) = 123))
theorem isMk_dec (π : pm_T) (K : Int) : isMk π K ∨ ¬ isMk π K := Classical.em _
def mkb (π : pm_T) (K : Int) : Bool := decide (0 < π 0 1) && ((K == 58 && π 1 (top π) == 91) || (K == 93 && π 1 (top π) == 91) || (K == 125 && π 1 (top π) == 123))
def sp_part (t : tk_T) (i : Nat) (π : pm_T) : F_T ⊕ (Nat × pm_T) :=
  if mkb π (tK t i) = true then .inr (i + 1, addM π (tK t i))
  else if tK t i = 258 ∨ tK t i = 266 ∨ tK t i = 60 then (if π 0 1 ≤ 6 then sp_event t i π else .inl (3, tP t i))
  else if tK t i = 124 then (if π 0 1 ≤ 6 then .inr (i + 1, addP π 124 0 0) else .inl (3, tP t i))
  else if tK t i = 91 then (if π 0 1 ≤ 6 then .inr (i + 1, addP (opn π) 91 0 0) else .inl (3, tP t i))
  else if tK t i = 123 then (if π 0 1 ≤ 6 then sp_times t i π else .inl (3, tP t i))
  else .inl (cn t i)
def sp_parts (t : tk_T) : Nat → Nat → pm_T → F_T ⊕ (Nat × pm_T)
  | 0, _, _ => .inl (1, 0)
  | f + 1, i, π => if tK t i = 59 ∧ π 0 1 ≤ 0 then .inr (i, π) else bnd (sp_part t i π) fun q => sp_parts t f q.1 q.2
def par0 : pm_T := fun _ _ => 0
/-! the WALK: rows of its memory: 0: steps, events, lines, far, now (two); 1 the part of an event; 2 its bar; 3, 4 START; 5, 6 LENGTH; 7 the first event of a bar -/
def isFr (a b : Int) : Bool := decide (1000 * b < a) || decide (1000000 < b)
def rdT (a b : Int) : Int := a / (Int.gcd a b : Int)
def rdB (a b : Int) : Int := b / (Int.gcd a b : Int)
def lnT (π : pm_T) (j : Nat) (sT : Int) : Int := sT * (2 ^ ((π 3 j).toNat + 1) - 1)
def lnB (π : pm_T) (j : Nat) (sB : Int) : Int := sB * π 2 j * 2 ^ (π 3 j).toNat
def wk_ev (π : pm_T) (j : Nat) (sT sB : Int) (α : pm_T) : pm_T :=
  let α1 := up2 α 0 1 (α 0 1 + 1)
  if α 0 3 = 0 ∧ α 0 1 < 300 then
    let e := (α 0 1).toNat
    let lT := rdT (lnT π j sT) (lnB π j sB)
    let lB := rdB (lnT π j sT) (lnB π j sB)
    let α2 := up2 (up2 (up2 (up2 (up2 (up2 α1 1 e (j : Int)) 2 e (α 0 2)) 3 e (α 0 4)) 4 e (α 0 5)) 5 e lT) 6 e lB
    if isFr lT lB = true then up2 α2 0 3 1 else
      let nT := rdT (α 0 4 * lB + lT * α 0 5) (α 0 5 * lB)
      let nB := rdB (α 0 4 * lB + lT * α 0 5) (α 0 5 * lB)
      up2 (up2 (up2 α2 0 4 nT) 0 5 nB) 0 3 (if isFr nT nB = true then 1 else 0)
  else α1
def wk_ln (α : pm_T) : pm_T := up2 (if α 0 2 < 100 then up2 α 7 ((α 0 2).toNat + 1) (α 0 1) else α) 0 2 (α 0 2 + 1)
def wk_st (α : pm_T) : pm_T := up2 α 0 0 (α 0 0 + 1)
def lk (π : pm_T) (j : Nat) : Nat := (π 14 j).toNat
/-- where the ] of the [ stands: along the marks -/
def cls (π : pm_T) : Nat → Nat → Nat
  | 0, j => j
  | f + 1, j => if π 1 j = 58 then cls π f (lk π j) else j
/-- mode true: from part x up to part y; mode false: [ at x is walked on from its mark y -/
def wk (π : pm_T) : Nat → Bool → Nat → Nat → Int → Int → pm_T → pm_T
  | 0, _, _, _, _, _, α => α
  | f + 1, true, x, y, sT, sB, α => if y ≤ x then α else
      if π 1 x = 91 then wk π f true (cls π f (lk π x) + 1) y sT sB
        (if π 1 (lk π x) = 58 then wk π f false x (lk π x) sT sB (wk_st α)
         else wk π f true (x + 1) (lk π x) sT sB (wk_st (wk π f true (x + 1) (lk π x) sT sB (wk_st (wk_st α)))))
      else if π 1 x = 123 then wk π f true (lk π x + 1) y sT sB (wk π f true (x + 1) (lk π x) (sT * π 3 x) (sB * π 2 x) (wk_st α))
      else if π 1 x = 124 then wk π f true (x + 1) y sT sB (wk_ln (wk_st α))
      else if π 1 x = 256 then wk π f true (x + 1) y sT sB (wk_ev π x sT sB (wk_st α))
      else wk π f true (x + 1) y sT sB (wk_st α)
  | f + 1, false, x, y, sT, sB, α => if π 1 y = 58 then wk π f false x (lk π y) sT sB (wk π f true (y + 1) (lk π y) sT sB (wk π f true (x + 1) (lk π x) sT sB (wk_st α))) else α
def wk0 : pm_T := up2 (fun _ _ => 0) 0 5 1
def walk (π : pm_T) : pm_T := wk π 5000 true 0 (sz π) 1 1 wk0
/-- a voice's walk in the score's memory: 10 + v: events, bars; 100 + 40 v + what: of an event -/
def addV (μ π α : pm_T) : pm_T := fun a k =>
  if a = 0 ∧ k = 7 then μ 0 7 + 1 else
  if a = 10 + (μ 0 7).toNat ∧ k = 0 then α 0 1 else if a = 10 + (μ 0 7).toNat ∧ k = 1 then α 0 2 + 1 else
  if 100 + 40 * (μ 0 7).toNat ≤ a ∧ a < 140 + 40 * (μ 0 7).toNat then
    (let w := a - (100 + 40 * (μ 0 7).toNat)
     let j := (α 1 k).toNat
     if w < 4 then α (3 + w) k else if w = 4 then π 5 j else if w = 5 then π 4 j else if w = 6 then α 2 k else if w = 7 then π 2 j else if w = 8 then π 3 j else if w = 9 then π 17 j
     else if 10 ≤ w ∧ w < 14 then π (w - 4) j else if 20 ≤ w ∧ w < 24 then π (w - 10) j else if w = 30 then α 7 k else if w = 31 then α 0 (4 + k) else 0)
  else μ a k
def sp_voice (t : tk_T) (i : Nat) (μ : pm_T) : F_T ⊕ (Nat × pm_T) :=
  if μ 0 7 < 4 then bnd (sp_parts t 3000 (i + 1) par0) fun q =>
    if 2000 < walk q.2 0 0 ∨ 300 < walk q.2 0 1 ∨ 100 < walk q.2 0 2 then .inl (3, tP t i) else if walk q.2 0 3 = 0 then .inr (q.1 + 1, addV μ q.2 (walk q.2)) else .inl (6, tP t i)
  else .inl (3, tP t i)
def sp_items (t : tk_T) : Nat → Nat → pm_T → F_T ⊕ pm_T
  | 0, _, _ => .inl (1, 0)
  | f + 1, i, μ => if tK t i = 256 then .inr μ else
      bnd (if tK t i = 261 then sp_time t i μ else if tK t i = 262 then sp_voice t i μ else if tK t i = 263 then sp_line t i μ else if tK t i = 264 then sp_rule t i μ else if tK t i = 265 then sp_row t i μ else .inl (cn t i)) fun q => sp_items t f q.1 q.2
def sco0 : pm_T := up2 (up2 (fun _ _ => 0) 0 1 4) 0 2 4
def sp_score (t : tk_T) : F_T ⊕ pm_T := sp_items t 3000 0 sco0
