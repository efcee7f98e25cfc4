/-! ===== an abstract machine over the kit's rows: values, heap, the judgement aw ===== -/
abbrev av_T : Type := Int ⊕ (Int ⊕ (UInt64 ⊕ (Option Nat ⊕ Nat)))
abbrev av_I (z : Int) : av_T := .inl z
abbrev av_L (z : Int) : av_T := .inr (.inl z)
abbrev av_D (d : UInt64) : av_T := .inr (.inr (.inl d))
abbrev av_R (r : Option Nat) : av_T := .inr (.inr (.inr (.inl r)))
abbrev av_S (k : Nat) : av_T := .inr (.inr (.inr (.inr k)))
/-- base, addresses, lengths and contents of the arrays that are only read, class ids, slots, array class ids, launch -/
abbrev cx_T : Type := Nat × (Nat → Nat) × (Nat → Nat) × (Nat → Nat → Int) × (Nat → ClassId) × (Nat → Nat → Nat) × (Nat → ClassId) × Launch
abbrev cx_b (G : cx_T) : Nat := G.1
abbrev cx_ra (G : cx_T) : Nat → Nat := G.2.1
abbrev cx_rl (G : cx_T) : Nat → Nat := G.2.2.1
abbrev cx_rv (G : cx_T) : Nat → Nat → Int := G.2.2.2.1
abbrev cx_dC (G : cx_T) : Nat → ClassId := G.2.2.2.2.1
abbrev cx_dI (G : cx_T) : Nat → Nat → Nat := G.2.2.2.2.2.1
abbrev cx_cA (G : cx_T) : Nat → ClassId := G.2.2.2.2.2.2.1
abbrev cx_l (G : cx_T) : Launch := G.2.2.2.2.2.2.2
def cv (G : cx_T) (v : av_T) : Value := match v with
  | .inl z => .int (Int32.ofInt z)
  | .inr (.inl z) => .long (Int64.ofInt z)
  | .inr (.inr (.inl d)) => .double d
  | .inr (.inr (.inr (.inl r))) => va_rf (r.map (fun a => cx_b G + a))
  | .inr (.inr (.inr (.inr k))) => .ref (cx_ra G k)
def i32 (z : Int) : Prop := -2147483648 ≤ z ∧ z < 2147483648
def i64 (z : Int) : Prop := -9223372036854775808 ≤ z ∧ z < 9223372036854775808
def w32 (z : Int) : Int := (z + 2147483648) % 4294967296 - 2147483648
def w64 (z : Int) : Int := (z + 9223372036854775808) % 18446744073709551616 - 9223372036854775808
def nv (v : av_T) : Prop := match v with
  | .inl z => i32 z
  | .inr (.inl z) => i64 z
  | _ => True
theorem w32_in (z : Int) : i32 (w32 z) := by unfold i32 w32; omega
theorem w64_in (z : Int) : i64 (w64 z) := by unfold i64 w64; omega
theorem w32_id {z : Int} (h : i32 z) : w32 z = z := by unfold i32 at h; unfold w32; omega
theorem w64_id {z : Int} (h : i64 z) : w64 z = z := by unfold i64 at h; unfold w64; omega
theorem w32_bm (z : Int) : z.bmod 4294967296 = w32 z := by
  unfold w32 Int.bmod
  dsimp only
  split <;> omega
theorem w64_bm (z : Int) : z.bmod 18446744073709551616 = w64 z := by
  unfold w64 Int.bmod
  dsimp only
  split <;> omega
theorem i32_ti (z : Int) : (Int32.ofInt z).toInt = w32 z := by rw [Int32.toInt_ofInt]; exact w32_bm z
theorem i64_ti (z : Int) : (Int64.ofInt z).toInt = w64 z := by rw [Int64.toInt_ofInt]; exact w64_bm z
theorem i32_tn {z : Int} (h : i32 z) : (Int32.ofInt z).toInt = z := by rw [i32_ti, w32_id h]
theorem i64_tn {z : Int} (h : i64 z) : (Int64.ofInt z).toInt = z := by rw [i64_ti, w64_id h]
theorem i32_of (x : Int32) : i32 x.toInt := by
  have h1 := x.le_toInt
  have h2 := x.toInt_lt
  unfold i32; omega
theorem i64_of (x : Int64) : i64 x.toInt := by
  have h1 := x.le_toInt
  have h2 := x.toInt_lt
  unfold i64; omega
theorem i32_rt (x : Int32) : Int32.ofInt x.toInt = x := by
  apply Int32.toInt_inj.mp
  rw [i32_tn (i32_of x)]
theorem i64_rt (x : Int64) : Int64.ofInt x.toInt = x := by
  apply Int64.toInt_inj.mp
  rw [i64_tn (i64_of x)]
theorem i32_e {z : Int} {x : Int32} (h : x.toInt = z) : Int32.ofInt z = x := by rw [← h, i32_rt]
theorem i64_e {z : Int} {x : Int64} (h : x.toInt = z) : Int64.ofInt z = x := by rw [← h, i64_rt]
theorem w32_add (x y : Int) : Int32.ofInt (w32 (x + y)) = Int32.ofInt x + Int32.ofInt y := by
  apply i32_e
  rw [Int32.toInt_add, i32_ti, i32_ti]
  exact (w32_bm _).trans (by unfold w32; omega)
theorem w32_sub (x y : Int) : Int32.ofInt (w32 (x - y)) = Int32.ofInt x - Int32.ofInt y := by
  apply i32_e
  rw [Int32.toInt_sub, i32_ti, i32_ti]
  exact (w32_bm _).trans (by unfold w32; omega)
theorem w32_neg (x : Int) : Int32.ofInt (w32 (-x)) = -Int32.ofInt x := by
  apply i32_e
  rw [Int32.toInt_neg, i32_ti]
  exact (w32_bm _).trans (by unfold w32; omega)
theorem w32_mul {x y : Int} (hx : i32 x) (hy : i32 y) : Int32.ofInt (w32 (x * y)) = Int32.ofInt x * Int32.ofInt y := by
  apply i32_e
  rw [Int32.toInt_mul, i32_tn hx, i32_tn hy]
  exact w32_bm _
theorem w64_add (x y : Int) : Int64.ofInt (w64 (x + y)) = Int64.ofInt x + Int64.ofInt y := by
  apply i64_e
  rw [Int64.toInt_add, i64_ti, i64_ti]
  exact (w64_bm _).trans (by unfold w64; omega)
theorem w64_sub (x y : Int) : Int64.ofInt (w64 (x - y)) = Int64.ofInt x - Int64.ofInt y := by
  apply i64_e
  rw [Int64.toInt_sub, i64_ti, i64_ti]
  exact (w64_bm _).trans (by unfold w64; omega)
theorem w64_neg (x : Int) : Int64.ofInt (w64 (-x)) = -Int64.ofInt x := by
  apply i64_e
  rw [Int64.toInt_neg, i64_ti]
  exact (w64_bm _).trans (by unfold w64; omega)
theorem w64_mul {x y : Int} (hx : i64 x) (hy : i64 y) : Int64.ofInt (w64 (x * y)) = Int64.ofInt x * Int64.ofInt y := by
  apply i64_e
  rw [Int64.toInt_mul, i64_tn hx, i64_tn hy]
  exact w64_bm _
theorem i32_0 : i32 0 := by unfold i32; omega
theorem i64_0 : i64 0 := by unfold i64; omega
theorem i32_lt {x y : Int} (hx : i32 x) (hy : i32 y) : Int32.ofInt x < Int32.ofInt y ↔ x < y := by rw [Int32.lt_iff_toInt_lt, i32_tn hx, i32_tn hy]
theorem i32_le {x y : Int} (hx : i32 x) (hy : i32 y) : Int32.ofInt x ≤ Int32.ofInt y ↔ x ≤ y := by rw [Int32.le_iff_toInt_le, i32_tn hx, i32_tn hy]
theorem i32_eq {x y : Int} (hx : i32 x) (hy : i32 y) : Int32.ofInt x = Int32.ofInt y ↔ x = y := by
  constructor
  · intro h
    have h2 := congrArg Int32.toInt h
    rw [i32_tn hx, i32_tn hy] at h2
    exact h2
  · intro h; rw [h]
theorem i32_z : (Int32.ofInt 0) = 0 := rfl
theorem i64_lt {x y : Int} (hx : i64 x) (hy : i64 y) : Int64.ofInt x < Int64.ofInt y ↔ x < y := by rw [Int64.lt_iff_toInt_lt, i64_tn hx, i64_tn hy]
theorem i64_eq {x y : Int} (hx : i64 x) (hy : i64 y) : Int64.ofInt x = Int64.ofInt y ↔ x = y := by
  constructor
  · intro h
    have h2 := congrArg Int64.toInt h
    rw [i64_tn hx, i64_tn hy] at h2
    exact h2
  · intro h; rw [h]
/-- an index that is in range -/
theorem i32_in {z : Int} {n : Nat} (h : i32 z) (h0 : 0 ≤ z) (h1 : z < n) : vp_in (Int32.ofInt z) n := by
  rw [vp_in_iff, i32_tn h]
  exact ⟨h0, h1⟩
theorem i32_cl {z : Int} (h : i32 z) (h0 : 0 ≤ z) : (Int32.ofInt z).toNatClampNeg = z.toNat := by
  have h2 := i32_tn h
  rw [← Int32.toNat_toInt, h2]
/-! the heap: shapes (kind, size), ints, longs, references -/
abbrev ah_T : Type := List (Nat × Nat) × (Nat → Nat → Int) × (Nat → Nat → Int) × (Nat → Nat → Option Nat)
abbrev ah_s (h : ah_T) : List (Nat × Nat) := h.1
abbrev ah_i (h : ah_T) : Nat → Nat → Int := h.2.1
abbrev ah_l (h : ah_T) : Nat → Nat → Int := h.2.2.1
abbrev ah_r (h : ah_T) : Nat → Nat → Option Nat := h.2.2.2
def up1 {α : Type} (f : Nat → α) (k : Nat) (v : α) : Nat → α := fun y => if y = k then v else f y
def up2 {α : Type} (f : Nat → Nat → α) (a k : Nat) (v : α) : Nat → Nat → α := fun x y => if x = a ∧ y = k then v else f x y
theorem up2_s {α : Type} (f : Nat → Nat → α) (a k : Nat) (v : α) : up2 f a k v a = up1 (f a) k v := by
  funext y
  simp [up2, up1]
theorem up2_n {α : Type} {f : Nat → Nat → α} {a k : Nat} {v : α} {x : Nat} (h : x ≠ a) : up2 f a k v x = f x := by
  funext y
  simp [up2, h]
theorem up2_at {α : Type} {f : Nat → Nat → α} {a k : Nat} {v : α} : up2 f a k v a k = v := by simp [up2]
theorem up2_o {α : Type} {f : Nat → Nat → α} {a k x y : Nat} {v : α} (h : ¬ (x = a ∧ y = k)) : up2 f a k v x y = f x y := by simp only [up2, if_neg h]
def st_i (h : ah_T) (a k : Nat) (z : Int) : ah_T := (h.1, up2 h.2.1 a k z, h.2.2.1, h.2.2.2)
def st_l (h : ah_T) (a k : Nat) (z : Int) : ah_T := (h.1, h.2.1, up2 h.2.2.1 a k z, h.2.2.2)
def st_r (h : ah_T) (a k : Nat) (z : Option Nat) : ah_T := (h.1, h.2.1, h.2.2.1, up2 h.2.2.2 a k z)
def st_n (h : ah_T) (kd n : Nat) : ah_T := (h.1 ++ [(kd, n)], h.2.1, h.2.2.1, h.2.2.2)
/-- an object's field as a value -/
def fv_V (b : Nat) (ty : FieldType) (fi fl : Nat → Int) (fr : Nat → Option Nat) (k : Nat) : Value := match ty with
  | .long => .long (Int64.ofInt (fl k))
  | .object _ => va_rf ((fr k).map (fun a => b + a))
  | .array _ => va_rf ((fr k).map (fun a => b + a))
  | _ => .int (Int32.ofInt (fi k))
def c_tys : List (Nat → FieldType) := [tyX0, tyX1, tyX2, tyX3, tyX4, tyX5, tyX6, tyX7, tyX8, tyX9, tyX10, tyX11, tyX12]
def f_ty (c k : Nat) : FieldType := match c_tys[c]? with
  | some f => f k
  | none => .int
abbrev classes : List vw_C := [(RX0, TX0, 4), (RX1, TX1, 3), (RX2, TX2, 8), (RX3, TX3, 8), (RX4, TX4, 12), (RX5, TX5, 8), (RX6, TX6, 13), (RX7, TX7, 8), (RX8, TX8, 13), (RX9, TX9, 6), (RX10, TX10, 17), (RX11, TX11, 11), (RX12, TX12, 111)]
def cell_R (G : cx_T) (kd n : Nat) (fi fl : Nat → Int) (fr : Nat → Option Nat) (q : Nat) (H : Heap) : Prop := match kd with
  | 0 => H[q]? = some (arrV (cx_cA G 0) n (fun j => .int (Int32.ofInt (fi j))))
  | 1 => H[q]? = some (arrV (cx_cA G 1) n (fun j => .long (Int64.ofInt (fl j))))
  | 2 => H[q]? = some (arrV (cx_cA G 2) n (fun j => .int (Int32.ofInt (fi j)))) ∧ ∀ j, fi j = 0 ∨ fi j = 1
  | 3 => H[q]? = some (arrV (cx_cA G 3) n (fun j => va_rf ((fr j).map (fun a => cx_b G + a))))
  | c + 4 => ∃ r : vw_C, classes[c]? = some r ∧ n = r.2.2 ∧ t_OB q (cx_dC G c) n (cx_dI G c) H (fun k => fv_V (cx_b G) (f_ty c k) fi fl fr k) ∧ ∀ k, f_ty c k = .boolean → fi k = 0 ∨ fi k = 1
theorem cell_R.kept {G : cx_T} {kd n : Nat} {fi fl : Nat → Int} {fr : Nat → Option Nat} {q : Nat} {H H1 : Heap} (h : cell_R G kd n fi fl fr q H) (hq : H1[q]? = H[q]?) : cell_R G kd n fi fl fr q H1 := by
  match kd, h with
  | 0, h => exact hq.trans h
  | 1, h => exact hq.trans h
  | 2, h => exact ⟨hq.trans h.1, h.2⟩
  | 3, h => exact hq.trans h
  | c + 4, h =>
    obtain ⟨r, h1, h2, h3, h4⟩ := h
    exact ⟨r, h1, h2, h3.kept hq, h4⟩
def hr_OK (G : cx_T) (h : ah_T) (H : Heap) : Prop :=
  H.size = cx_b G + h.1.length ∧ (∀ a kd n, h.1[a]? = some (kd, n) → cell_R G kd n (h.2.1 a) (h.2.2.1 a) (h.2.2.2 a) (cx_b G + a) H) ∧
  (∀ a, h.1.length ≤ a → ∀ k, h.2.1 a k = 0 ∧ h.2.2.1 a k = 0 ∧ h.2.2.2 a k = none) ∧ (∀ a k, i32 (h.2.1 a k)) ∧ (∀ a k, i64 (h.2.2.1 a k))
/-- the arrays that are only read: n_RO of them; the first is the script, the others hang on static fields -/
def n_RO : Nat := 4
def st_L : List (String × Nat × List Int) := [("NATURALS", 1, [0, 2, 4, 5, 7, 9, 11]), ("RATIO_TOPS", 2, [1, 16, 9, 6, 5, 4, 45, 3, 8, 5, 9, 15]), ("RATIO_BOTTOMS", 3, [1, 15, 8, 5, 4, 3, 32, 2, 5, 3, 5, 8])]
def sk_L : List (Nat × String) := [(108, "time"), (114, "voice"), (116, "line"), (118, "rule"), (120, "row"), (122, String.ofList ['r']), (91, ";:/|[]{}<>=.~")]
def sk_len : List Nat := [4, 5, 4, 4, 3, 1, 13]
def sk_byt : List (List Int32) := [[116, 105, 109, 101], [118, 111, 105, 99, 101], [108, 105, 110, 101], [114, 117, 108, 101], [114, 111, 119], [114], [59, 58, 47, 124, 91, 93, 123, 125, 60, 62, 61, 46, 126]]
def ro_St (G : cx_T) (U : State) (H : Heap) : Prop :=
  (∀ q ∈ st_L, va_Z "PlainMusic" q.1 "[I" (.ref (cx_ra G q.2.1)) (fun a => cx_b G ≤ a) U H ∧ cx_rl G q.2.1 = q.2.2.length ∧ ∀ j, j < q.2.2.length → cx_rv G q.2.1 j = q.2.2.getD j 0) ∧
  va_Z "java/lang/String" "COMPACT_STRINGS" "Z" (.int 1) (fun a => cx_b G ≤ a) U H ∧
  vk_S 7 sk_len sk_byt (fun i => cx_ra G (10 + i)) (fun i => cx_ra G (20 + i)) (fun a => cx_b G ≤ a) U H ∧
  (∀ i q, sk_L[i]? = some q → vk_R "PlainMusic$Tokens" q.1 q.2 (cx_ra G (10 + i)) U) ∧
  (va_Z "jdk/internal/util/Preconditions" "SIOOBE_FORMATTER" "Ljava/util/function/BiFunction;" .null (fun a => cx_b G ≤ a) U H ∨ va_Z "jdk/internal/util/Preconditions" "SIOOBE_FORMATTER" "Ljava/util/function/BiFunction;" (.ref (cx_ra G 9)) (fun a => cx_b G ≤ a) U H)
def ro_OK (G : cx_T) (U : State) (H : Heap) : Prop := (∀ k, k < n_RO → va_T .int (cx_ra G k) (cx_rl G k) (fun j => .int (Int32.ofInt (cx_rv G k j))) (fun q => cx_b G ≤ q) U H ∧ ∀ j, i32 (cx_rv G k j)) ∧ ro_St G U H
theorem ro_to {G : cx_T} {s U : State} {H H1 : Heap} (h : ro_OK G s H) (hq : ∀ a : Nat, a < H.size → ¬ cx_b G ≤ a → H1[a]? = H[a]?) (hal : s.vm.Alike U.vm) (hvk : ∀ own k tx a, vk_R own k tx a s → vk_R own k tx a U) : ro_OK G U H1 :=
  ⟨fun k hk => ⟨((h.1 k hk).1.kept hq).moved hal, (h.1 k hk).2⟩, fun q hm => ⟨((h.2.1 q hm).1.kept hq).moved hal, (h.2.1 q hm).2⟩, (h.2.2.1.kept hq).moved hal, (h.2.2.2.1.kept hq).moved hal, fun i q e => hvk _ _ _ _ (h.2.2.2.2.1 i q e), h.2.2.2.2.2.elim (fun z => Or.inl ((z.kept hq).moved hal)) (fun z => Or.inr ((z.kept hq).moved hal))⟩
abbrev c_arr (G : cx_T) : List (ClassId × FieldType) := [(cx_cA G 0, .int), (cx_cA G 1, .long), (cx_cA G 2, .boolean), (cx_cA G 3, .object RX10)]
/-- the words that last -/
def nestW : Cond → Bool
  | .methodLinkNest _ _ _ _ => true
  | .fieldLinkNest _ _ _ _ _ _ => true
  | .arrayOver (.object _) => true
  | _ => false
def gw : List Cond := lw_tbl.filter goodWord
theorem gw_ok : GoodIn gw gw := fun w hw => ⟨hw, good_of_word (List.mem_filter.mp hw).2⟩
theorem gw_in {w : Cond} (i : Nat) (h : lw_tbl[i]? = some w) (hg : goodWord w = true) : w ∈ gw := List.mem_filter.mpr ⟨List.mem_of_getElem? h, hg⟩
def nw_OK (U : State) : Prop := ∀ w ∈ lw_tbl, nestW w = true → va_Nw w U
theorem nw_OK.moved {s U : State} (hW : s.WarmedH U.vm) (h : nw_OK s) : nw_OK U := by
  intro w hw hn
  have h1 := h w hw hn
  cases w <;> first | exact va_Nw.warmM hW h1 | exact va_Nw.warmF hW h1 | (simp [nestW] at hn; done) | skip
  rename_i ty
  cases ty <;> first | exact va_AO.moved hW.alike h1 | (simp [nestW] at hn; done)
def kf_OK (G : cx_T) (U : State) : Prop := va_K (cx_dC G, cx_dI G) classes (c_arr G) U ∧ nw_OK U
/-- a method: its name, its code, its locals, what it returns -/
abbrev mr_T : Type := MethodName × ByteArray × Nat × Option FieldType
abbrev mr_w (M : mr_T) : Cond := Cond.code M.1 M.2.1 M.2.2.1 M.2.2.2
def st_OK (G : cx_T) (M : mr_T) (p : Program) (s : State) (m : MethodId) (args : Array Value) (meth : Method) (c : Code) : Prop :=
  p.tables.exec = Jvm.exec ∧ c.code = M.2.1 ∧ c.maxLocals = M.2.2.1 ∧ s.vm.findClass M.1.cls = some m.cls ∧ (∀ w ∈ gw, w.before args s = true) ∧ kf_OK G s ∧ meth.sig.returnType = M.2.2.2 ∧ meth.locks = false ∧ (M.1.name = "<init>" → meth.name = "<init>")
/-- locals by their places -/
def lr_OK (G : cx_T) (n : Nat) (L : List (Option av_T)) (ls : Array Slot) : Prop :=
  L.length = n ∧ ls.size = n ∧ lv_wf ls ∧ ∀ (k : Nat) (v : av_T), L[k]? = some (some v) → ls[k]? = some (.val (cv G v)) ∧ nv v
abbrev fr_A (G : cx_T) : Nat → Prop := fun q => cx_b G ≤ q
def qc_Q (G : cx_T) (Q : Option av_T → ah_T → Prop) : Array Value → State → Outcome → State → Prop := fun _ st o t =>
  (∃ (r : Option av_T) (h' : ah_T), o = .returned (r.map (cv G)) ∧ (∀ v, r = some v → nv v) ∧ Q r h' ∧ hr_OK G h' t.heap ∧ ro_OK G t t.heap) ∧ va_F (fr_A G) st t
def aw (G : cx_T) (R : Room) (M : mr_T) (cu su pc : Nat) (L : List (Option av_T)) (st : List av_T) (h : ah_T) (Q : Option av_T → ah_T → Prop) : Prop :=
  ∀ (p : Program) (e : Env) (s : State) (m : MethodId) (args : Array Value) (below : List Frame) (meth : Method) (c : Code) (H : Heap) (locs : List Loc) (ls : Array Slot),
    st_OK G M p s m args meth c → hr_OK G h H → ro_OK G s s.heap → va_S (fr_A G) s.heap H locs → cx_b G ≤ s.heap.size → lr_OK G M.2.2.1 L ls → (∀ v ∈ st, nv v) →
    W p (cx_l G) e R s m args below meth c H locs cu su (MQ below (qc_Q G Q) args s R.cells R.slots (fr_A G)) (F0 m pc ls (st.map (cv G)))
def rm_R (d mc ms : Nat) : Room := { frames := d, cells := mc, slots := ms, locals := 48 * d }
def con (G : cx_T) (d mc ms : Nat) (M : mr_T) (As : List av_T) (h : ah_T) (Q : Option av_T → ah_T → Prop) : Prop :=
  (∀ v ∈ As, nv v) → Met (cx_l G) M.1 (mr_w M :: gw) (rm_R d mc ms) (va_Pc (As.map (cv G)) (fun U => hr_OK G h U.heap ∧ ro_OK G U U.heap ∧ kf_OK G U ∧ cx_b G ≤ U.heap.size)) (qc_Q G Q) mc ms (fr_A G)
