/-! ===== rows that make cells, and calls ===== -/
theorem st_n_OK {G : cx_T} {h : ah_T} {H H1 : Heap} (hH : hr_OK G h H) {kd n : Nat} (z : H1.size = H.size + 1) (oq : ∀ q : Nat, q < H.size → H1[q]? = H[q]?) (hc : cell_R G kd n (fun _ => 0) (fun _ => 0) (fun _ => none) H.size H1) : hr_OK G (st_n h kd n) H1 := by
  obtain ⟨h1, h2, h3, h4, h5⟩ := id hH
  refine ⟨by rw [z, h1]; simp [st_n]; omega, fun x kx nx hx => ?_, fun x hx k => ?_, h4, h5⟩
  · show cell_R G kx nx (h.2.1 x) (h.2.2.1 x) (h.2.2.2 x) (cx_b G + x) H1
    by_cases hl : x < h.1.length
    · have hx2 : (h.1 ++ [(kd, n)])[x]? = some (kx, nx) := hx
      rw [List.getElem?_append_left hl] at hx2
      exact (h2 x kx nx hx2).kept (oq _ (by rw [h1]; omega))
    · have hx2 : (h.1 ++ [(kd, n)])[x]? = some (kx, nx) := hx
      rw [List.getElem?_append_right (by omega)] at hx2
      have hz : x - h.1.length < 1 := (List.getElem?_eq_some_iff.mp hx2).1
      have hxe : x = h.1.length := by omega
      subst hxe
      rw [Nat.sub_self] at hx2
      cases hx2
      have e1 : h.2.1 h.1.length = fun _ => 0 := funext fun k => (h3 _ (Nat.le_refl _) k).1
      have e2 : h.2.2.1 h.1.length = fun _ => 0 := funext fun k => (h3 _ (Nat.le_refl _) k).2.1
      have e3 : h.2.2.2 h.1.length = fun _ => none := funext fun k => (h3 _ (Nat.le_refl _) k).2.2
      rw [e1, e2, e3, ← h1]
      exact hc
  · have hx2 : (h.1 ++ [(kd, n)]).length ≤ x := hx
    rw [List.length_append, List.length_singleton] at hx2
    exact h3 x (by omega) k
theorem va_S_new {A : Nat → Prop} {H0 H H1 : Heap} {locs : List Loc} (hS : va_S A H0 H locs) (z : H1.size = H.size + 1) (oq : ∀ q : Nat, q < H.size → H1[q]? = H[q]?) : va_S A H0 H1 locs :=
  ⟨Nat.le_trans hS.1 (by omega), fun x h1 h2 => (oq x (Nat.lt_of_lt_of_le h1 hS.1)).trans (hS.2.1 x h1 h2), hS.2.2⟩
theorem c_arr_0 {G : cx_T} {U : State} (h : kf_OK G U) {cA : ClassId} (hN : U.vm.findClass ("[" ++ (newarray.typeOf .int).toString) = some cA) : cA = cx_cA G 0 := by
  have h2 : U.vm.findClass ("[" ++ (FieldType.int).toString) = some (cx_cA G 0) := (c_arr_K h 0 _ rfl).2
  exact Option.some.inj (hN.symm.trans h2)
theorem c_arr_1 {G : cx_T} {U : State} (h : kf_OK G U) {cA : ClassId} (hN : U.vm.findClass ("[" ++ (newarray.typeOf .long).toString) = some cA) : cA = cx_cA G 1 := by
  have h2 : U.vm.findClass ("[" ++ (FieldType.long).toString) = some (cx_cA G 1) := (c_arr_K h 1 _ rfl).2
  exact Option.some.inj (hN.symm.trans h2)
theorem c_arr_2 {G : cx_T} {U : State} (h : kf_OK G U) {cA : ClassId} (hN : U.vm.findClass ("[" ++ (newarray.typeOf .boolean).toString) = some cA) : cA = cx_cA G 2 := by
  have h2 : U.vm.findClass ("[" ++ (FieldType.boolean).toString) = some (cx_cA G 2) := (c_arr_K h 2 _ rfl).2
  exact Option.some.inj (hN.symm.trans h2)
section AWN
variable {G : cx_T} {R : Room} {M : mr_T} {cu su pc : Nat} {L : List (Option av_T)} {st : List av_T} {h : ah_T} {Q : Option av_T → ah_T → Prop}
theorem A_newI {z : Int} (hd : decode M.2.1 pc = .ok (.newarray .int, 2)) (hac : Cond.arrayClass .int ∈ gw) (h0 : 0 ≤ z) (hz : z ≤ 60000000) (hc : cu + 1 ≤ R.cells) (hsl : su + z.toNat ≤ R.slots) (kk : aw G R M (cu + 1) (su + z.toNat) (pc + 2) L (av_R (some h.1.length) :: st) (st_n h 0 z.toNat) Q) : aw G R M cu su pc L (av_I z :: st) h Q := by
  intro p e s m args below meth cd H locs ls S hH hO hS hb hL hn
  have hcl := i32_cl (nv_h hn) h0
  refine va_newaK (atype := .int) S.1 S.2.1 (S.2.2.2.2.1 _ hac) rfl hd rfl (N := z.toNat) (fun q => by have := (i32_lt (nv_h hn) i32_0).mp q; omega) hcl (by show z.toNat * 4 ≤ _; omega) hc hsl rfl fun H1 cA e1 z1 o1 hAr hNm => ?_
  have hcA : cA = cx_cA G 0 := c_arr_0 S.2.2.2.2.2.1 hNm
  subst hcA
  have hk := kk p e s m args below meth cd H1 locs ls S (st_n_OK hH z1 o1 e1) hO (va_S_new hS z1 o1) hb hL (nv_c trivial (nv_t hn))
  rw [hH.1]
  exact hk
theorem A_newL {z : Int} (hd : decode M.2.1 pc = .ok (.newarray .long, 2)) (hac : Cond.arrayClass .long ∈ gw) (h0 : 0 ≤ z) (hz : z ≤ 60000000) (hc : cu + 1 ≤ R.cells) (hsl : su + z.toNat ≤ R.slots) (kk : aw G R M (cu + 1) (su + z.toNat) (pc + 2) L (av_R (some h.1.length) :: st) (st_n h 1 z.toNat) Q) : aw G R M cu su pc L (av_I z :: st) h Q := by
  intro p e s m args below meth cd H locs ls S hH hO hS hb hL hn
  have hcl := i32_cl (nv_h hn) h0
  refine va_newaK (atype := .long) S.1 S.2.1 (S.2.2.2.2.1 _ hac) rfl hd rfl (N := z.toNat) (fun q => by have := (i32_lt (nv_h hn) i32_0).mp q; omega) hcl (by show z.toNat * 8 ≤ _; omega) hc hsl rfl fun H1 cA e1 z1 o1 hAr hNm => ?_
  have hcA : cA = cx_cA G 1 := c_arr_1 S.2.2.2.2.2.1 hNm
  subst hcA
  have hk := kk p e s m args below meth cd H1 locs ls S (st_n_OK hH z1 o1 e1) hO (va_S_new hS z1 o1) hb hL (nv_c trivial (nv_t hn))
  rw [hH.1]
  exact hk
theorem A_newZ {z : Int} (hd : decode M.2.1 pc = .ok (.newarray .boolean, 2)) (hac : Cond.arrayClass .boolean ∈ gw) (h0 : 0 ≤ z) (hz : z ≤ 60000000) (hc : cu + 1 ≤ R.cells) (hsl : su + z.toNat ≤ R.slots) (kk : aw G R M (cu + 1) (su + z.toNat) (pc + 2) L (av_R (some h.1.length) :: st) (st_n h 2 z.toNat) Q) : aw G R M cu su pc L (av_I z :: st) h Q := by
  intro p e s m args below meth cd H locs ls S hH hO hS hb hL hn
  have hcl := i32_cl (nv_h hn) h0
  refine va_newaK (atype := .boolean) S.1 S.2.1 (S.2.2.2.2.1 _ hac) rfl hd rfl (N := z.toNat) (fun q => by have := (i32_lt (nv_h hn) i32_0).mp q; omega) hcl (by show z.toNat * 1 ≤ _; omega) hc hsl rfl fun H1 cA e1 z1 o1 hAr hNm => ?_
  have hcA : cA = cx_cA G 2 := c_arr_2 S.2.2.2.2.2.1 hNm
  subst hcA
  have hk := kk p e s m args below meth cd H1 locs ls S (st_n_OK hH z1 o1 ⟨e1, fun _ => Or.inl rfl⟩) hO (va_S_new hS z1 o1) hb hL (nv_c trivial (nv_t hn))
  rw [hH.1]
  exact hk
theorem A_newV {z : Int} {idx : Nat} (hd : decode M.2.1 pc = .ok (.anewarray idx, 3)) (hcl : Cond.classLink M.1.cls idx RX10 ∈ gw) (hov : Cond.arrayOver (.object RX10) ∈ lw_tbl) (h0 : 0 ≤ z) (hz : z ≤ 60000000) (hc : cu + 1 ≤ R.cells) (hsl : su + z.toNat ≤ R.slots) (kk : aw G R M (cu + 1) (su + z.toNat) (pc + 3) L (av_R (some h.1.length) :: st) (st_n h 3 z.toNat) Q) : aw G R M cu su pc L (av_I z :: st) h Q := by
  intro p e s m args below meth cd H locs ls S hH hO hS hb hL hn
  have hcl2 := i32_cl (nv_h hn) h0
  refine W.anew S.1 S.2.1 S.2.2.2.1 (S.2.2.2.2.1 _ hcl) (va_AO.use (S.2.2.2.2.2.1.2 _ hov rfl)) rfl hd rfl (fun q => by have := (i32_lt (nv_h hn) i32_0).mp q; omega) (by rw [hcl2]; omega) hc (by rw [hcl2]; exact hsl) fun cA kA comp f1 f2 f3 f4 => ?_
  obtain ⟨kA', comp', k1, k2, k3, k4⟩ := (c_arr_K S.2.2.2.2.2.1 3 _ rfl).2
  have hcA : cA = cx_cA G 3 := Option.some.inj (f1.symm.trans k4)
  subst hcA
  rw [hcl2]
  generalize hH1 : H.push ({ cls := cx_cA G 3, slots := Array.replicate z.toNat .null, vm := .none } : Cell) = H1
  have z1 : H1.size = H.size + 1 := by rw [← hH1, Array.size_push]
  have e1 : H1[H.size]? = some (arrV (cx_cA G 3) z.toNat (fun _ => .null)) := by rw [← hH1, Array.getElem?_push_size, ← arrV_new]
  have o1 : ∀ q : Nat, q < H.size → H1[q]? = H[q]? := fun q hq => by rw [← hH1, Array.getElem?_push, if_neg (Nat.ne_of_lt hq)]
  have hk := kk p e s m args below meth cd H1 locs ls S (st_n_OK hH z1 o1 e1) hO (va_S_new hS z1 o1) hb hL (nv_c trivial (nv_t hn))
  rw [hH.1]
  exact hk
theorem dv_fv (ty : FieldType) (b j : Nat) (h : ty = .int ∨ ty = .boolean ∨ ty = .long ∨ (∃ n, ty = .object n) ∨ ∃ n, ty = .array n) : defaultValue ty = fv_V b ty (fun _ => 0) (fun _ => 0) (fun _ => none) j := by
  rcases h with rfl | rfl | rfl | ⟨n, rfl⟩ | ⟨n, rfl⟩ <;> rfl
def tbl_K : Prop := ∀ c q, classes[c]? = some q → ∀ k, k < q.2.2 → f_ty c k = .int ∨ f_ty c k = .boolean ∨ f_ty c k = .long ∨ (∃ n, f_ty c k = .object n) ∨ ∃ n, f_ty c k = .array n
theorem A_new {idx c : Nat} {q : vw_C} (hT : tbl_OK) (hTK : tbl_K) (hd : decode M.2.1 pc = .ok (.new idx, 3)) (hq : classes[c]? = some q) (hcl : Cond.classLink M.1.cls idx q.1 ∈ gw) (hc : cu + 1 ≤ R.cells) (hsl : su + q.2.2 ≤ R.slots) (kk : aw G R M (cu + 1) (su + q.2.2) (pc + 3) L (av_R (some h.1.length) :: st) (st_n h (c + 4) q.2.2) Q) : aw G R M cu su pc L st h Q := by
  intro p e s m args below meth cd H locs ls S hH hO hS hb hL hn
  obtain ⟨k1, k2, k3, k4, k5, k6⟩ := hT c q hq
  have hKn := S.2.2.2.2.2.1.1.1 c _ hq
  refine W.newcK S.1 S.2.1 S.2.2.2.1 (S.2.2.2.2.1 _ hcl) (S.2.2.2.2.1 _ k4) (S.2.2.2.2.1 _ k5) rfl hd hc hsl hKn.2.1 rfl fun H1 kC hkC e1 z1 o1 => ?_
  have hob := u_born (f_ty c) S.2.2.2.2.1 k1 hKn hkC e1 k2
  have hk := kk p e s m args below meth cd H1 locs ls S (st_n_OK hH z1 o1 ⟨q, hq, rfl, hob.to (fun j hj => dv_fv (f_ty c j) _ j (hTK c q hq j hj)), fun _ _ => Or.inl rfl⟩) hO (va_S_new hS z1 o1) hb hL (nv_c trivial hn)
  rw [hH.1]
  exact hk
theorem A_objInit {idx : Nat} {a : Nat} (hd : decode M.2.1 pc = .ok (.invokespecial idx, 3)) (hl : Cond.methodLink M.1.cls idx Lib.objectInit ∈ gw) (hi : Cond.instanceMethod Lib.objectInit ∈ gw) (hc : Cond.code Lib.objectInit ⟨#[0xb1]⟩ 1 none ∈ gw) (hR : 1 ≤ R.frames ∧ 12 ≤ R.locals) (hst : st = []) (kk : aw G R M cu su (pc + 3) L st h Q) : aw G R M cu su pc L (av_R (some a) :: st) h Q := by
  intro p e s m args below meth cd H locs ls S hH hO hS hb hL hn
  subst hst
  exact W.objInit S.1 S.2.1 S.2.2.2.1 (S.2.2.2.2.1 _ hl) (S.2.2.2.2.1 _ hi) (S.2.2.2.2.1 _ hc) rfl (by show ls.size = _; rw [hL.2.1, S.2.2.1]) rfl hd hR.1 (by simpa [JFrame.monitorRoom] using hR.2) (kk p e s m args below meth cd H locs ls S hH hO hS hb hL (nv_t hn))
/-! calls -/
def rp_R (r : Option av_T) (st : List av_T) : List av_T := match r with
  | none => st
  | some v => v :: st
theorem rp_map (G : cx_T) (r : Option av_T) (st : List av_T) : (rp_R r st).map (cv G) = (r.map (cv G)).toList ++ st.map (cv G) := by
  cases r <;> rfl
def Pc_B (G : cx_T) (h : ah_T) : State → Prop := fun U => hr_OK G h U.heap ∧ ro_OK G U U.heap ∧ kf_OK G U ∧ cx_b G ≤ U.heap.size
theorem nw_same {u U : State} (h : nw_OK u) (hv : u.vm = U.vm) : nw_OK U := by
  intro w hw hn
  have h1 := h w hw hn
  have hal : u.vm.Alike U.vm := by rw [hv]; exact Vm.Alike.refl U.vm
  cases w <;> first | exact va_Nw.same rfl hv h1 | (simp [nestW] at hn; done) | skip
  rename_i ty
  cases ty <;> first | exact va_AO.moved hal h1 | (simp [nestW] at hn; done)
theorem Pc_blind {G : cx_T} {h : ah_T} {As : List Value} : FrameBlind (va_Pc As (Pc_B G h)) := by
  intro a U g mk hp
  obtain ⟨h1, h2, h3, h4, h5⟩ := hp
  exact ⟨h1, h2, ro_to (s := U) (U := U.calling g mk a) h3 (fun _ _ _ => rfl) (Vm.Alike.refl U.vm) (fun _ _ _ _ q => vk_R.same (u := U) rfl q), ⟨va_K.moved (u := U) (U := U.calling g mk a) (Vm.Alike.refl U.vm) h4.1, nw_same h4.2 rfl⟩, h5⟩
theorem Pc_pre {G : cx_T} {h : ah_T} {M : mr_T} {p : Program} {s : State} {m : MethodId} {args : Array Value} {meth : Method} {c : Code} {H : Heap} {locs : List Loc} (S : st_OK G M p s m args meth c) (hH : hr_OK G h H) (hO : ro_OK G s s.heap) (hS : va_S (fr_A G) s.heap H locs) (hb : cx_b G ≤ s.heap.size) (As : List Value) (U : State) (hU : U.heap = H) (hW : s.WarmedH U.vm) : va_Pc As (Pc_B G h) As.toArray U :=
  ⟨rfl, by rw [hU]; exact hH, by rw [hU]; exact ro_to hO hS.2.1 hW.alike (fun _ _ _ _ q => q.warm hW), ⟨va_K.moved hW.alike S.2.2.2.2.2.1.1, S.2.2.2.2.2.1.2.moved hW⟩, by rw [hU]; exact Nat.le_trans hb hS.1⟩
abbrev md_OK (y : MethodName) (np : Nat) : Prop := y.cls ≠ "java/lang/invoke/MethodHandle" ∧ y.cls ≠ "java/lang/invoke/VarHandle" ∧ (parseMethodDescriptor y.desc).map (fun d => d.parameters.length) = some np
/-- what the tables say of a method that is called: 0 static, 1 of an object, 2 a constructor -/
def mt_OK (N : mr_T) (np kind : Nat) : Prop := mr_w N ∈ gw ∧ Cond.initialized N.1.cls ∈ gw ∧ md_OK N.1 np ∧ (kind = 0 → Cond.static N.1 ∈ gw) ∧ (kind = 1 → Cond.instanceMethod N.1 ∈ gw ∧ Cond.selects N.1.cls N.1 N.1 ∈ gw) ∧ (kind = 2 → Cond.instanceMethod N.1 ∈ gw ∧ N.1.name = "<init>" ∧ N.2.2.2 = none)
def ml_OK (own : String) (idx : Nat) (y : MethodName) : Prop := Cond.methodLink own idx y ∈ gw ∨ ∃ host, Cond.methodLinkNest own idx y host ∈ lw_tbl
theorem acall {Qa : Option av_T → ah_T → Prop} {mc ms : Nat} {p : Program} {e : Env} {s : State} {m : MethodId} {args : Array Value} {below : List Frame} {meth : Method} {cd : Code} {H : Heap} {locs : List Loc} {ls : Array Slot} {st0 : List Value} {a : Array Value}
    (hr : va_Run p (cx_l G) e R s m args below meth cd H locs cu su mc ms (F0 m pc ls st0) (st.map (cv G)) (qc_Q G Qa a) (fr_A G)) (S : st_OK G M p s m args meth cd) (hO : ro_OK G s s.heap) (hS : va_S (fr_A G) s.heap H locs) (hb : cx_b G ≤ s.heap.size) (hL : lr_OK G M.2.2.1 L ls) (hn : ∀ v ∈ st, nv v)
    (kk : ∀ r h', Qa r h' → aw G R M (cu + mc) (su + ms) (pc + 3) L (rp_R r st) h' Q) : W p (cx_l G) e R s m args below meth cd H locs cu su (MQ below (qc_Q G Q) args s R.cells R.slots (fr_A G)) (F0 m pc ls st0) := by
  intro T hT X
  obtain ⟨v, st₀, t, T', LL, h0, X', hLL, e1, e2, ⟨⟨r, h', hv, hnv, hQ, hH', hO'⟩, hz, hk⟩, stp⟩ := hr T hT X
  have hv2 : v = r.map (cv G) := Outcome.returned.inj hv
  subst hv2
  rw [h0] at hz hk
  have hk2 := kk r h' hQ p e s m args below meth cd T'.heap (locs ++ LL) ls S (by rw [e1]; exact hH') hO
    ⟨Nat.le_trans hS.1 (by rw [e1]; exact hz), fun q h1 h2 => by rw [e1, hk q (Nat.lt_of_lt_of_le h1 hS.1) h2]; exact hS.2.1 q h1 h2, fun q hq => by
      rcases List.mem_append.mp hq with h | h
      · exact hS.2.2 q h
      · exact hLL q h⟩ hb hL (by
      cases r with
      | none => exact hn
      | some w => exact nv_c (hnv w rfl) hn)
  rw [rp_map] at hk2
  obtain ⟨t2, a1, b1⟩ := hk2 T' rfl X'
  exact ⟨t2, stp t2 a1, b1⟩
theorem gi_M {N : mr_T} (h : mr_w N ∈ gw) : GoodIn gw (mr_w N :: gw) := by
  intro w hw
  rcases List.mem_cons.mp hw with rfl | h1
  · exact gw_ok _ h
  · exact gw_ok _ h1
abbrev rm_OK (R : Room) (d : Nat) (N : mr_T) : Prop := d + 1 ≤ R.frames ∧ 8 + (N.2.2.1 + 11) + 48 * d ≤ R.locals
theorem cat_sum (G : cx_T) {st : List av_T} (h : st.length ≤ 4) : ((st.map (cv G)).map fun v => v.category).sum ≤ 8 := by
  have key : ∀ l : List av_T, ((l.map (cv G)).map fun v => v.category).sum ≤ 2 * l.length := by
    intro l
    induction l with
    | nil => simp
    | cons v l ih =>
      have h2 : (cv G v).category ≤ 2 := by
        rcases v with z | z | d | r | k
        · exact (by decide : (1 : Nat) ≤ 2)
        · exact (by decide : (2 : Nat) ≤ 2)
        · exact (by decide : (2 : Nat) ≤ 2)
        · cases r <;> exact (by decide : (1 : Nat) ≤ 2)
        · exact (by decide : (1 : Nat) ≤ 2)
      simp only [List.map_cons, List.sum_cons, List.length_cons]
      omega
  have := key st
  omega
theorem A_callS {Qa : Option av_T → ah_T → Prop} {idx d mc ms np : Nat} {N : mr_T} (As : List av_T) (hd : decode M.2.1 pc = .ok (.invokestatic idx, 3)) (hl : ml_OK M.1.cls idx N.1) (hm : mt_OK N np 0) (hnp : As.length = np) (hR : rm_OK R d N) (hf : cu + mc ≤ R.cells ∧ su + ms ≤ R.slots) (hst : st.length ≤ 4) (hM : con G d mc ms N As h Qa) (stk : List av_T) (hstk : stk = As.reverse ++ st)
    (kk : ∀ r h', Qa r h' → aw G R M (cu + mc) (su + ms) (pc + 3) L (rp_R r st) h' Q) : aw G R M cu su pc L stk h Q := by
  intro p e s m args below meth cd H locs ls S hH hO hS hb hL hn
  subst hstk
  obtain ⟨c1, c2, c3, c4, -, -⟩ := hm
  have hnA : ∀ v ∈ As, nv v := fun v hv => hn v (List.mem_append_left _ (List.mem_reverse.mpr hv))
  have hns : ∀ v ∈ st, nv v := fun v hv => hn v (List.mem_append_right _ hv)
  have hMet := hM hnA
  have hp : PreS s H (va_Pc (As.map (cv G)) (Pc_B G h)) (As.map (cv G)) := ⟨Pc_blind, fun U hU hW => Pc_pre S hH hO hS hb _ U hU hW⟩
  have hstack : (F0 m pc ls ((As.reverse ++ st).map (cv G))).stack = (As.map (cv G)).reverse ++ st.map (cv G) := by simp
  rcases hl with hl | ⟨host, hl⟩
  · exact acall (va_runS ⟨S.1, S.2.1, rfl, S.2.2.2.1, S.2.2.2.2.1⟩ hMet ⟨callB_of (ws' := gw) (index := idx) np S.2.2.2.2.1 (gi_M c1) rfl rfl rfl (S.2.2.2.2.1 _ c2) (S.2.2.2.2.1 _ hl) c3 hR, S.2.2.2.2.1 _ (c4 rfl)⟩ hp rfl (by rw [List.length_map]; exact hnp) (by show ls.size = _; rw [hL.2.1, S.2.2.1]) hstack (lv_room (cat_sum G hst)) hd hf) S hO hS hb hL hns kk
  · exact acall (va_runSN (host := host) ⟨S.1, S.2.1, rfl, S.2.2.2.1, S.2.2.2.2.1⟩ hMet ⟨va_cnB (ws' := gw) (index := idx) np S.2.2.2.2.1 (gi_M c1) rfl rfl rfl (S.2.2.2.2.2.1.2 _ hl rfl) (S.2.2.2.2.1 _ c2) c3 hR, S.2.2.2.2.1 _ (c4 rfl), trivial⟩ hp rfl (by rw [List.length_map]; exact hnp) (by show ls.size = _; rw [hL.2.1, S.2.2.1]) hstack (lv_room (cat_sum G hst)) hd hf) S hO hS hb hL hns kk
theorem A_callV {Qa : Option av_T → ah_T → Prop} {idx d mc ms np c nn a : Nat} {N : mr_T} (As : List av_T) (hT : tbl_OK) (hd : decode M.2.1 pc = .ok (.invokevirtual idx, 3)) (hl : ml_OK M.1.cls idx N.1) (hm : mt_OK N np 1) (hnp : As.length = np) (hs : h.1[a]? = some (c + 4, nn)) (hcl : (classes[c]?).map (fun q => q.1) = some N.1.cls) (hR : rm_OK R d N) (hf : cu + mc ≤ R.cells ∧ su + ms ≤ R.slots) (hst : st.length ≤ 4) (hM : con G d mc ms N (av_R (some a) :: As) h Qa) (stk : List av_T) (hstk : stk = As.reverse ++ av_R (some a) :: st)
    (kk : ∀ r h', Qa r h' → aw G R M (cu + mc) (su + ms) (pc + 3) L (rp_R r st) h' Q) : aw G R M cu su pc L stk h Q := by
  intro p e s m args below meth cd H locs ls S hH hO hS hb hL hn
  subst hstk
  obtain ⟨c1, c2, c3, -, c4, -⟩ := hm
  obtain ⟨c5, c6⟩ := c4 rfl
  have hnA : ∀ v ∈ av_R (some a) :: As, nv v := nv_c trivial (fun v hv => hn v (List.mem_append_left _ (List.mem_reverse.mpr hv)))
  have hns : ∀ v ∈ st, nv v := fun v hv => hn v (List.mem_append_right _ (List.mem_cons_of_mem _ hv))
  have hMet := hM hnA
  obtain ⟨q, g1, g2, ⟨cell, q1, q2, q3, -⟩, -⟩ := hH.2.1 a _ _ hs
  have hqc : q.1 = N.1.cls := by rw [g1] at hcl; exact Option.some.inj hcl
  have hrecv : ∃ cellB : Cell, H[cx_b G + a]? = some cellB ∧ cellB.vm.isStatics = false ∧ s.vm.findClass N.1.cls = some cellB.cls := ⟨cell, q1, by rw [q3]; rfl, by rw [q2, ← hqc]; exact (S.2.2.2.2.2.1.1.1 c _ g1).2.1⟩
  have hp : PreV s H N.1.cls (cx_b G + a) (va_Pc ((av_R (some a) :: As).map (cv G)) (Pc_B G h)) (As.map (cv G)) := ⟨Pc_blind, hrecv, fun U hU hW => Pc_pre S hH hO hS hb _ U hU hW⟩
  have hstack : (F0 m pc ls ((As.reverse ++ av_R (some a) :: st).map (cv G))).stack = (As.map (cv G)).reverse ++ .ref (cx_b G + a) :: st.map (cv G) := by
    show List.map (cv G) (As.reverse ++ av_R (some a) :: st) = _
    rw [List.map_append, List.map_reverse]
    rfl
  rcases hl with hl | ⟨host, hl⟩
  · exact acall (va_runV (b := cx_b G + a) (C := N.1.cls) ⟨S.1, S.2.1, rfl, S.2.2.2.1, S.2.2.2.2.1⟩ hMet ⟨callB_of (ws' := gw) (index := idx) np S.2.2.2.2.1 (gi_M c1) rfl rfl rfl (S.2.2.2.2.1 _ c2) (S.2.2.2.2.1 _ hl) c3 hR, S.2.2.2.2.1 _ c5, S.2.2.2.2.1 _ c6⟩ hp rfl (by rw [List.length_map]; exact hnp) (by show ls.size = _; rw [hL.2.1, S.2.2.1]) hstack (lv_room (cat_sum G hst)) hd hf) S hO hS hb hL hns kk
  · exact acall (va_runVN (b := cx_b G + a) (C := N.1.cls) (host := host) ⟨S.1, S.2.1, rfl, S.2.2.2.1, S.2.2.2.2.1⟩ hMet ⟨va_cnB (ws' := gw) (index := idx) np S.2.2.2.2.1 (gi_M c1) rfl rfl rfl (S.2.2.2.2.2.1.2 _ hl rfl) (S.2.2.2.2.1 _ c2) c3 hR, S.2.2.2.2.1 _ c5, S.2.2.2.2.1 _ c6⟩ hp rfl (by rw [List.length_map]; exact hnp) (by show ls.size = _; rw [hL.2.1, S.2.2.1]) hstack (lv_room (cat_sum G hst)) hd hf) S hO hS hb hL hns kk
theorem A_callI {Qa : Option av_T → ah_T → Prop} {idx d mc ms np a : Nat} {y : MethodName} {by0 : ByteArray} {ml : Nat} (As : List av_T) (hd : decode M.2.1 pc = .ok (.invokespecial idx, 3)) (hl : ml_OK M.1.cls idx y) (hm : mt_OK (y, by0, ml, none) np 2) (hnp : As.length = np) (hR : rm_OK R d (y, by0, ml, none)) (hf : cu + mc ≤ R.cells ∧ su + ms ≤ R.slots) (hst : st.length ≤ 4) (hM : con G d mc ms (y, by0, ml, none) (av_R (some a) :: As) h Qa) (stk : List av_T) (hstk : stk = As.reverse ++ av_R (some a) :: st)
    (kk : ∀ r h', Qa r h' → aw G R M (cu + mc) (su + ms) (pc + 3) L (rp_R r st) h' Q) : aw G R M cu su pc L stk h Q := by
  intro p e s m args below meth cd H locs ls S hH hO hS hb hL hn
  subst hstk
  obtain ⟨c1, c2, c3, -, -, c4⟩ := hm
  obtain ⟨c5, c6, -⟩ := c4 rfl
  have hnA : ∀ v ∈ av_R (some a) :: As, nv v := nv_c trivial (fun v hv => hn v (List.mem_append_left _ (List.mem_reverse.mpr hv)))
  have hns : ∀ v ∈ st, nv v := fun v hv => hn v (List.mem_append_right _ (List.mem_cons_of_mem _ hv))
  have hMet := hM hnA
  have hp : PreS s H (va_Pc ((av_R (some a) :: As).map (cv G)) (Pc_B G h)) (.ref (cx_b G + a) :: As.map (cv G)) := ⟨Pc_blind, fun U hU hW => Pc_pre S hH hO hS hb _ U hU hW⟩
  have hstack : (F0 m pc ls ((As.reverse ++ av_R (some a) :: st).map (cv G))).stack = (As.map (cv G)).reverse ++ .ref (cx_b G + a) :: st.map (cv G) := by
    show List.map (cv G) (As.reverse ++ av_R (some a) :: st) = _
    rw [List.map_append, List.map_reverse]
    rfl
  rcases hl with hl | ⟨host, hl⟩
  · exact acall (va_runI (b := cx_b G + a) ⟨S.1, S.2.1, rfl, S.2.2.2.1, S.2.2.2.2.1⟩ hMet ⟨callB_of (ws' := gw) (index := idx) np S.2.2.2.2.1 (gi_M c1) rfl rfl rfl (S.2.2.2.2.1 _ c2) (S.2.2.2.2.1 _ hl) c3 hR, c6, S.2.2.2.2.1 _ c5⟩ hp rfl (by rw [List.length_map]; exact hnp) (by show ls.size = _; rw [hL.2.1, S.2.2.1]) hstack (lv_room (cat_sum G hst)) hd hf) S hO hS hb hL hns kk
  · exact acall (va_runIN (b := cx_b G + a) (host := host) ⟨S.1, S.2.1, rfl, S.2.2.2.1, S.2.2.2.2.1⟩ hMet ⟨va_cnB (ws' := gw) (index := idx) np S.2.2.2.2.1 (gi_M c1) rfl rfl rfl (S.2.2.2.2.2.1.2 _ hl rfl) (S.2.2.2.2.1 _ c2) c3 hR, c6, S.2.2.2.2.1 _ c5⟩ hp rfl (by rw [List.length_map]; exact hnp) (by show ls.size = _; rw [hL.2.1, S.2.2.1]) hstack (lv_room (cat_sum G hst)) hd hf) S hO hS hb hL hns kk
end AWN
/-! a contract out of a walk -/
def arg_l : List av_T → List (Option av_T)
  | [] => []
  | v :: vs => match cat2 v with
    | true => some v :: none :: arg_l vs
    | false => some v :: arg_l vs
def arg_L (n : Nat) (As : List av_T) : List (Option av_T) := arg_l As ++ List.replicate (n - (arg_l As).length) none
theorem arg_sl (G : cx_T) : ∀ As : List av_T, (lg_sl (As.map (cv G))).length = (arg_l As).length
  | [] => rfl
  | v :: vs => by
    have ih := arg_sl G vs
    have hc := cv_cat (G := G) v
    unfold lg_sl at ih ⊢
    rw [List.map_cons, List.flatMap_cons, List.length_append, ih]
    cases h2 : cat2 v
    · rw [h2] at hc
      have : ¬ (cv G v).category = 2 := by simpa using hc
      simp [arg_l, h2, this]; omega
    · rw [h2] at hc
      have : (cv G v).category = 2 := by simpa using hc
      simp [arg_l, h2, this]; omega
theorem arg_at (G : cx_T) : ∀ (As : List av_T) (i k : Nat) (v : av_T), (arg_l As)[k]? = some (some v) → (i + k, cv G v) ∈ lv_args i (As.map (cv G)) ∧ v ∈ As
  | [], i, k, v, h => by simp [arg_l] at h
  | w :: vs, i, k, v, h => by
    have hc := cv_cat (G := G) w
    cases h2 : cat2 w
    · rw [h2] at hc
      have hc2 : ¬ (cv G w).category = 2 := by simpa using hc
      simp only [arg_l, h2] at h
      rw [List.map_cons]
      cases k with
      | zero =>
        rw [List.getElem?_cons_zero] at h
        cases h
        exact ⟨List.mem_cons_self, List.mem_cons_self⟩
      | succ k =>
        rw [List.getElem?_cons_succ] at h
        obtain ⟨a1, a2⟩ := arg_at G vs (i + 1) k v h
        refine ⟨?_, List.mem_cons_of_mem _ a2⟩
        unfold lv_args
        rw [if_neg hc2]
        refine List.mem_cons_of_mem _ ?_
        rw [show i + (k + 1) = i + 1 + k by omega]
        exact a1
    · rw [h2] at hc
      have hc2 : (cv G w).category = 2 := by simpa using hc
      simp only [arg_l, h2] at h
      rw [List.map_cons]
      match k, h with
      | 0, h =>
        rw [List.getElem?_cons_zero] at h
        cases h
        exact ⟨List.mem_cons_self, List.mem_cons_self⟩
      | 1, h =>
        rw [List.getElem?_cons_succ, List.getElem?_cons_zero] at h
        simp at h
      | k + 2, h =>
        rw [List.getElem?_cons_succ, List.getElem?_cons_succ] at h
        obtain ⟨a1, a2⟩ := arg_at G vs (i + 2) k v h
        refine ⟨?_, List.mem_cons_of_mem _ a2⟩
        unfold lv_args
        rw [if_pos hc2]
        refine List.mem_cons_of_mem _ ?_
        rw [show i + (k + 2) = i + 2 + k by omega]
        exact a1
theorem lr_entry {G : cx_T} {n : Nat} {As : List av_T} (hn : ∀ v ∈ As, nv v) (hl : (arg_l As).length ≤ n) : lr_OK G n (arg_L n As) ((lg_sl (As.map (cv G)) ++ List.replicate (n - (lg_sl (As.map (cv G))).length) Slot.unset).toArray) := by
  have h1 := lv_entry (As.map (cv G)) (n := n) (by rw [arg_sl]; exact hl)
  refine ⟨by simp [arg_L]; omega, h1.1, h1.2.1, fun k v hk => ?_⟩
  unfold arg_L at hk
  by_cases hkl : k < (arg_l As).length
  · rw [List.getElem?_append_left hkl] at hk
    obtain ⟨a1, a2⟩ := arg_at G As 0 k v hk
    rw [Nat.zero_add] at a1
    exact ⟨h1.2.2 _ a1, hn v a2⟩
  · rw [List.getElem?_append_right (by omega), List.getElem?_replicate] at hk
    split at hk <;> simp at hk
theorem con_of {G : cx_T} {d mc ms : Nat} {M : mr_T} {As : List av_T} {h : ah_T} {Q : Option av_T → ah_T → Prop} (hy : plainName M.1.cls = true) (hl : (arg_l As).length ≤ M.2.2.1) {L : List (Option av_T)} (hL : arg_L M.2.2.1 As = L)
    (k : aw G (rm_R d mc ms) M 0 0 0 L [] h Q) : con G d mc ms M As h Q := by
  intro hn
  subst hL
  refine Met.ofW (cc := M.2.1) (maxL := M.2.2.1) (ret := M.2.2.2) hy rfl ?_
  intro p e s m args below meth c s₁ B hml hv
  obtain ⟨rfl, hH, hO, hK, hb⟩ := hv
  have hts := atoms_spec (ws := mr_w M :: gw) B.pre
  rw [lg_entry_eq]
  exact k p e s m _ below meth c s.heap [] _ ⟨B.exec, B.bytes, hml, findClass_of_methodNamed B.named, fun w hw => hts w (List.mem_cons_of_mem _ hw), hK, B.returns, B.notSynchronized, fun hi => ((name_of_methodNamed B.named B.method).1).trans hi⟩ hH hO va_S.rf hb (lr_entry hn hl) (fun v hv => by cases hv)
