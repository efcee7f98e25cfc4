/-! ===== rows of the abstract machine that read and write the heap, make cells, call ===== -/
def fl_OK (own : String) (idx c k : Nat) (ty : FieldType) (fin : Bool) : Prop := ∃ q : vw_C, classes[c]? = some q ∧ k < q.2.2 ∧ Cond.fieldLink own idx (q.2.1 k).1 (q.2.1 k).2.1 (q.2.1 k).2.2.1 ∈ gw ∧ f_ty c k = ty ∧ (q.2.1 k).2.2.2 = fin
def cl_F (c : Nat) (q : vw_C) : Prop := (∀ w ∈ u_ws q.1 q.2.1 q.2.2, w ∈ gw) ∧ (∀ k, k < q.2.2 → parseFieldDescriptor (q.2.1 k).2.2.1 = some (f_ty c k)) ∧ (∀ a, a < q.2.2 → ∀ b, b < q.2.2 → a ≠ b → (q.2.1 a).2.1 ≠ (q.2.1 b).2.1) ∧ Cond.instantiable q.1 q.2.2 ∈ gw ∧ Cond.initialized q.1 ∈ gw ∧ ∀ k, k < q.2.2 → (q.2.1 k).1 = q.1
def tbl_OK : Prop := ∀ c q, classes[c]? = some q → cl_F c q
theorem hr_lt {G : cx_T} {h : ah_T} {H : Heap} (hH : hr_OK G h H) {a kd n : Nat} (hs : h.1[a]? = some (kd, n)) : a < h.1.length ∧ cx_b G + a < H.size := by
  have h1 := (List.getElem?_eq_some_iff.mp hs).1
  exact ⟨h1, by rw [hH.1]; omega⟩
theorem hr_upd {G : cx_T} {h h' : ah_T} {H H1 : Heap} (hH : hr_OK G h H) {a kd n : Nat} (hs : h.1[a]? = some (kd, n)) (hsh : h'.1 = h.1) (ho : ∀ x, x ≠ a → h'.2.1 x = h.2.1 x ∧ h'.2.2.1 x = h.2.2.1 x ∧ h'.2.2.2 x = h.2.2.2 x)
    (hr1 : ∀ k, i32 (h'.2.1 a k)) (hr2 : ∀ k, i64 (h'.2.2.1 a k)) (z : H1.size = H.size) (oq : ∀ q : Nat, q ≠ cx_b G + a → H1[q]? = H[q]?) (hc : cell_R G kd n (h'.2.1 a) (h'.2.2.1 a) (h'.2.2.2 a) (cx_b G + a) H1) : hr_OK G h' H1 := by
  obtain ⟨h1, h2, h3, h4, h5⟩ := hH
  have hlt := (List.getElem?_eq_some_iff.mp hs).1
  refine ⟨by rw [z, h1, hsh], fun x kx nx hx => ?_, fun x hx k => ?_, fun x k => ?_, fun x k => ?_⟩
  · rw [hsh] at hx
    by_cases hxa : x = a
    · subst hxa
      rw [hs] at hx
      cases hx
      exact hc
    · obtain ⟨o1, o2, o3⟩ := ho x hxa
      rw [o1, o2, o3]
      exact (h2 x kx nx hx).kept (oq _ (by omega))
  · rw [hsh] at hx
    obtain ⟨o1, o2, o3⟩ := ho x (by omega)
    rw [o1, o2, o3]
    exact h3 x hx k
  · by_cases hxa : x = a
    · subst hxa; exact hr1 k
    · rw [(ho x hxa).1]; exact h4 x k
  · by_cases hxa : x = a
    · subst hxa; exact hr2 k
    · rw [(ho x hxa).2.1]; exact h5 x k
theorem up1_i32 {f : Nat → Int} {k : Nat} {z : Int} (hf : ∀ j, i32 (f j)) (hz : i32 z) : ∀ j, i32 (up1 f k z j) := by
  intro j
  unfold up1
  split
  · exact hz
  · exact hf j
theorem up1_i64 {f : Nat → Int} {k : Nat} {z : Int} (hf : ∀ j, i64 (f j)) (hz : i64 z) : ∀ j, i64 (up1 f k z j) := by
  intro j
  unfold up1
  split
  · exact hz
  · exact hf j
theorem fvi_up {b : Nat} {ty : Nat → FieldType} {fi fl : Nat → Int} {fr : Nat → Option Nat} {k : Nat} {z : Int} (hk : ty k = .int ∨ ty k = .boolean) (j : Nat) : fv_V b (ty j) (up1 fi k z) fl fr j = updV (fun j => fv_V b (ty j) fi fl fr j) k (.int (Int32.ofInt z)) j := by
  by_cases hj : j = k
  · subst hj
    rcases hk with hk | hk <;> simp [updV, hk, fv_V, up1]
  · simp only [updV, hj, if_false]
    cases hty : ty j <;> simp [fv_V, up1, hj]
theorem fvl_up {b : Nat} {ty : Nat → FieldType} {fi fl : Nat → Int} {fr : Nat → Option Nat} {k : Nat} {z : Int} (hk : ty k = .long) (j : Nat) : fv_V b (ty j) fi (up1 fl k z) fr j = updV (fun j => fv_V b (ty j) fi fl fr j) k (.long (Int64.ofInt z)) j := by
  by_cases hj : j = k
  · subst hj
    simp [updV, hk, fv_V, up1]
  · simp only [updV, hj, if_false]
    cases hty : ty j <;> simp [fv_V, up1, hj]
theorem fvr_up {b : Nat} {ty : Nat → FieldType} {fi fl : Nat → Int} {fr : Nat → Option Nat} {k : Nat} {z : Option Nat} (hk : (∃ n, ty k = .object n) ∨ ∃ n, ty k = .array n) (j : Nat) : fv_V b (ty j) fi fl (up1 fr k z) j = updV (fun j => fv_V b (ty j) fi fl fr j) k (va_rf (z.map (fun a => b + a))) j := by
  by_cases hj : j = k
  · subst hj
    rcases hk with ⟨n, hk⟩ | ⟨n, hk⟩ <;> simp [updV, hk, fv_V, up1]
  · simp only [updV, hj, if_false]
    cases hty : ty j <;> simp [fv_V, up1, hj]
theorem fit_r {ty : FieldType} (hk : (∃ n, ty = .object n) ∨ ∃ n, ty = .array n) (b : Nat) (z : Option Nat) : narrow ty (va_rf (z.map (fun a => b + a))) = va_rf (z.map (fun a => b + a)) ∧ fits ty (va_rf (z.map (fun a => b + a))) = true := by
  rcases hk with ⟨n, rfl⟩ | ⟨n, rfl⟩ <;> cases z <;> exact ⟨rfl, rfl⟩
theorem fit_b {z : Int} (h : z = 0 ∨ z = 1) : fits .boolean (.int (Int32.ofInt z)) = true := by
  rcases h with rfl | rfl <;> rfl
/-- n cells of a kind -/
theorem c_arr_K {G : cx_T} {U : State} (h : kf_OK G U) : ∀ (k : Nat) (q : ClassId × FieldType), (c_arr G)[k]? = some q → ArrOfT U q.1 q.2 ∧ va_RA U q.1 q.2 := h.1.2
section AWH
variable {G : cx_T} {R : Room} {M : mr_T} {cu su pc : Nat} {L : List (Option av_T)} {st : List av_T} {h : ah_T} {Q : Option av_T → ah_T → Prop}
theorem get_W {own : String} {idx c k : Nat} {ty : FieldType} {fin : Bool} {a n : Nat} (hT : tbl_OK) (hd : decode M.2.1 pc = .ok (.getfield idx, 3)) (hf : fl_OK M.1.cls idx c k ty fin) (hs : h.1[a]? = some (c + 4, n)) (v : av_T) (hv : cv G v = fv_V (cx_b G) ty (h.2.1 a) (h.2.2.1 a) (h.2.2.2 a) k)
    (hnv : hr_OK G h (#[] : Heap) ∨ ((∀ a k, i32 (h.2.1 a k)) → (∀ a k, i64 (h.2.2.1 a k)) → nv v)) (kk : aw G R M cu su (pc + 3) L (v :: st) h Q) : aw G R M cu su pc L (av_R (some a) :: st) h Q := by
  intro p e s m args below meth cd H locs ls S hH hO hS hb hL hn
  obtain ⟨r, h1, h2, ⟨cell, q1, q2, q3, q4⟩, h5⟩ := hH.2.1 a _ _ hs
  obtain ⟨q, g1, g2, g3, g4, g5⟩ := hf
  have hrq : r = q := Option.some.inj (h1.symm.trans g1)
  subst hrq
  obtain ⟨k1, k2, k3, k4, k5, k6⟩ := hT c r g1
  obtain ⟨hS2, hfc, kC, hkC, hkind⟩ := S.2.2.2.2.2.1.1.1 c _ g1
  obtain ⟨cf, kf, fi, f, hi, hsl⟩ := hS2 k g2
  have hnv' : nv v := by
    rcases hnv with z | z
    · exact absurd z.1 (by have := (List.getElem?_eq_some_iff.mp hs).1; simp; omega)
    · exact z hH.2.2.2.1 hH.2.2.2.2
  refine W.getf S.1 S.2.1 S.2.2.2.1 (S.2.2.2.2.1 _ g3) hi (u_facts hfc hkC (u_lays S.2.2.2.2.1 k1 g2) hi).1 q1 (by rw [q3]; exact fun h => by cases h) (v := cv G v) ?_ rfl rfl hd (kk p e s m args below meth cd H locs ls S hH hO hS hb hL (nv_c hnv' (nv_t hn)))
  rw [hsl, q4 k (by rw [h2]; exact g2), hv]
  show some (fv_V _ (f_ty c k) _ _ _ k) = _
  rw [g4]
theorem A_getI {idx c k : Nat} {fin : Bool} {a n : Nat} (hT : tbl_OK) (hd : decode M.2.1 pc = .ok (.getfield idx, 3)) (hf : fl_OK M.1.cls idx c k .int fin) (hs : h.1[a]? = some (c + 4, n)) (kk : aw G R M cu su (pc + 3) L (av_I (h.2.1 a k) :: st) h Q) : aw G R M cu su pc L (av_R (some a) :: st) h Q :=
  get_W (own := "") hT hd hf hs (av_I (h.2.1 a k)) rfl (Or.inr fun z _ => z a k) kk
theorem A_getZ {idx c k : Nat} {fin : Bool} {a n : Nat} (hT : tbl_OK) (hd : decode M.2.1 pc = .ok (.getfield idx, 3)) (hf : fl_OK M.1.cls idx c k .boolean fin) (hs : h.1[a]? = some (c + 4, n)) (kk : (h.2.1 a k = 0 ∨ h.2.1 a k = 1) → aw G R M cu su (pc + 3) L (av_I (h.2.1 a k) :: st) h Q) : aw G R M cu su pc L (av_R (some a) :: st) h Q := by
  intro p e s m args below meth cd H locs ls S hH hO hS hb hL hn
  obtain ⟨r, h1, h2, h3, h4⟩ := hH.2.1 a _ _ hs
  obtain ⟨q, g1, g2, g3, g4, g5⟩ := id hf
  exact get_W (own := "") hT hd hf hs (av_I (h.2.1 a k)) rfl (Or.inr fun z _ => z a k) (kk (h4 k g4)) p e s m args below meth cd H locs ls S hH hO hS hb hL hn
theorem A_getL {idx c k : Nat} {fin : Bool} {a n : Nat} (hT : tbl_OK) (hd : decode M.2.1 pc = .ok (.getfield idx, 3)) (hf : fl_OK M.1.cls idx c k .long fin) (hs : h.1[a]? = some (c + 4, n)) (kk : aw G R M cu su (pc + 3) L (av_L (h.2.2.1 a k) :: st) h Q) : aw G R M cu su pc L (av_R (some a) :: st) h Q :=
  get_W (own := "") hT hd hf hs (av_L (h.2.2.1 a k)) rfl (Or.inr fun _ z => z a k) kk
theorem A_getA {idx c k : Nat} {t : FieldType} {fin : Bool} {a n : Nat} (hT : tbl_OK) (hd : decode M.2.1 pc = .ok (.getfield idx, 3)) (hf : fl_OK M.1.cls idx c k (.array t) fin) (hs : h.1[a]? = some (c + 4, n)) (kk : aw G R M cu su (pc + 3) L (av_R (h.2.2.2 a k) :: st) h Q) : aw G R M cu su pc L (av_R (some a) :: st) h Q :=
  get_W (own := "") hT hd hf hs (av_R (h.2.2.2 a k)) rfl (Or.inr fun _ _ => trivial) kk
theorem A_getO {idx c k : Nat} {t : String} {fin : Bool} {a n : Nat} (hT : tbl_OK) (hd : decode M.2.1 pc = .ok (.getfield idx, 3)) (hf : fl_OK M.1.cls idx c k (.object t) fin) (hs : h.1[a]? = some (c + 4, n)) (kk : aw G R M cu su (pc + 3) L (av_R (h.2.2.2 a k) :: st) h Q) : aw G R M cu su pc L (av_R (some a) :: st) h Q :=
  get_W (own := "") hT hd hf hs (av_R (h.2.2.2 a k)) rfl (Or.inr fun _ _ => trivial) kk
theorem put_W {idx c k : Nat} {ty : FieldType} {fin : Bool} {a n : Nat} {w : av_T} {h' : ah_T} (hT : tbl_OK) (hd : decode M.2.1 pc = .ok (.putfield idx, 3)) (hf : fl_OK M.1.cls idx c k ty fin) (hs : h.1[a]? = some (c + 4, n)) (hfin : fin = false ∨ (M.1.name = "<init>" ∧ ∀ q, classes[c]? = some q → q.1 = M.1.cls))
    (hn0 : nv w → narrow ty (cv G w) = cv G w ∧ fits ty (cv G w) = true) (hsh : h'.1 = h.1) (ho : ∀ x, x ≠ a → h'.2.1 x = h.2.1 x ∧ h'.2.2.1 x = h.2.2.1 x ∧ h'.2.2.2 x = h.2.2.2 x)
    (hr1 : nv w → (∀ k, i32 (h.2.1 a k)) → ∀ k, i32 (h'.2.1 a k)) (hr2 : nv w → (∀ k, i64 (h.2.2.1 a k)) → ∀ k, i64 (h'.2.2.1 a k))
    (hV : f_ty c k = ty → ∀ j, updV (fun j => fv_V (cx_b G) (f_ty c j) (h.2.1 a) (h.2.2.1 a) (h.2.2.2 a) j) k (cv G w) j = fv_V (cx_b G) (f_ty c j) (h'.2.1 a) (h'.2.2.1 a) (h'.2.2.2 a) j) (hb0 : f_ty c k = ty → (∀ j, f_ty c j = .boolean → h.2.1 a j = 0 ∨ h.2.1 a j = 1) → ∀ j, f_ty c j = .boolean → h'.2.1 a j = 0 ∨ h'.2.1 a j = 1)
    (kk : aw G R M cu su (pc + 3) L st h' Q) : aw G R M cu su pc L (w :: av_R (some a) :: st) h Q := by
  intro p e s m args below meth cd H locs ls S hH hO hS hb hL hn
  obtain ⟨r, h1, h2, ⟨cell, q1, q2, q3, q4⟩, h5⟩ := id (hH.2.1 a _ _ hs)
  obtain ⟨q, g1, g2, g3, g4, g5⟩ := hf
  have hrq : r = q := Option.some.inj (h1.symm.trans g1)
  subst hrq
  obtain ⟨k1, k2, k3, k4, k5, k6⟩ := hT c r g1
  have hKn := S.2.2.2.2.2.1.1.1 c _ g1
  obtain ⟨hS2, hfc, kC, hkC, hkind⟩ := id hKn
  obtain ⟨cf, kf, fi, f, hi, hsl⟩ := hS2 k g2
  have hst := (u_facts hfc hkC (u_lays S.2.2.2.2.1 k1 g2) hi).1
  have hdk : parseFieldDescriptor (r.2.1 k).2.2.1 = some ty := by rw [k2 k g2, g4]
  obtain ⟨n1, n2⟩ := hn0 (nv_h hn)
  have hap := va_apart (own := M.1.cls) (T := r.2.1) S.2.2.2.2.1 k1 (f_ty c) k2 k3 S.2.2.2.2.2.1.1 g1
  have fin2 : ∀ H1 : Heap, H1[cx_b G + a]? = some (cell.setSlot f.slot (cv G w)) → H1.size = H.size → (∀ q : Nat, q ≠ cx_b G + a → H1[q]? = H[q]?) → W p (cx_l G) e R s m args below meth cd H1 (locs ++ [⟨cx_b G + a, f.slot⟩]) cu su (MQ below (qc_Q G Q) args s R.cells R.slots (fr_A G)) (F0 m (pc + 3) ls (st.map (cv G))) := by
    intro H1 e1 e2 e3
    rw [hsl] at e1 ⊢
    refine kk p e s m args below meth cd H1 _ ls S ?_ hO (hS.put e2 e3 (Nat.le_add_right _ _)) hb hL (nv_t (nv_t hn))
    refine hr_upd hH hs hsh ho (hr1 (nv_h hn) (hH.2.2.2.1 a)) (hr2 (nv_h hn) (hH.2.2.2.2 a)) e2 e3 ⟨r, g1, h2, ?_, hb0 g4 h5⟩
    refine t_OB.to (V := updV (fun j => fv_V (cx_b G) (f_ty c j) (h.2.1 a) (h.2.2.1 a) (h.2.2.2 a) j) k (cv G w)) ⟨_, e1, q2, q3, ?_⟩ (fun j _ => hV g4 j)
    rw [h2] at q4 ⊢
    exact t_set q4 hap g2 (cv G w)
  rcases hfin with hfin | ⟨hin, hcl⟩
  · have hlay := S.2.2.2.2.1 _ (k1 _ (u_in_lay g2))
    unfold u_lay at hlay
    rw [if_neg (by rw [g5, hfin]; decide)] at hlay
    have h6 := u_store hfc hkC hkind hlay hi hdk n1 n2
    exact W.putK S.1 S.2.1 (f := f) ⟨S.2.2.2.1, S.2.2.2.2.1 _ g3, ⟨_, _, _, hi⟩, hst⟩ (by rw [q2]; exact h6) q1 q3 (by rw [hsl]; exact k2_hasslot (q4 k (by rw [h2]; exact g2))) rfl rfl hd fin2
  · cases fin with
    | false =>
      have hlay := S.2.2.2.2.1 _ (k1 _ (u_in_lay g2))
      unfold u_lay at hlay
      rw [if_neg (by rw [g5]; decide)] at hlay
      have h6 := u_store hfc hkC hkind hlay hi hdk n1 n2
      exact W.putK S.1 S.2.1 (f := f) ⟨S.2.2.2.1, S.2.2.2.2.1 _ g3, ⟨_, _, _, hi⟩, hst⟩ (by rw [q2]; exact h6) q1 q3 (by rw [hsl]; exact k2_hasslot (q4 k (by rw [h2]; exact g2))) rfl rfl hd fin2
    | true =>
      have hlay := S.2.2.2.2.1 _ (k1 _ (u_in_lay g2))
      unfold u_lay at hlay
      rw [if_pos g5] at hlay
      have hcf : m.cls = cf := by
        obtain ⟨_, _, c', _, _, _, -, -, hf', -, -, -, hown2, -⟩ := Cond.laysFinal_spec hlay
        have e1 : c' = cf := by have := hi.symm.trans hf'; simp at this; exact this.1.symm
        rw [k6 k g2, hcl r g1] at hown2
        rw [← e1]; exact Option.some.inj (S.2.2.2.1.symm.trans hown2)
      have h6 := u_fits hfc hkC hkind (Or.inr hlay) hi hdk n1 n2
      exact W.putFinK S.1 S.2.1 S.2.2.2.1 (S.2.2.2.2.1 _ g3) hi hst hcf (S.2.2.2.2.2.2.2.2 hin) (by rw [q2]; exact h6) q1 q3 (by rw [hsl]; exact k2_hasslot (q4 k (by rw [h2]; exact g2))) rfl rfl hd fin2
abbrev fin_OK (M : mr_T) (c : Nat) (fin : Bool) : Prop := fin = false ∨ (M.1.name = "<init>" ∧ ∀ q, classes[c]? = some q → q.1 = M.1.cls)
theorem A_putI {idx c k : Nat} {fin : Bool} {a n : Nat} {z : Int} (hT : tbl_OK) (hd : decode M.2.1 pc = .ok (.putfield idx, 3)) (hf : fl_OK M.1.cls idx c k .int fin) (hs : h.1[a]? = some (c + 4, n)) (hfin : fin_OK M c fin) (kk : aw G R M cu su (pc + 3) L st (st_i h a k z) Q) : aw G R M cu su pc L (av_I z :: av_R (some a) :: st) h Q := by
  refine put_W (h' := st_i h a k z) hT hd hf hs hfin (fun _ => ⟨rfl, rfl⟩) rfl (fun x hx => ⟨up2_n hx, rfl, rfl⟩) (fun hz hr => ?_) (fun _ hr => hr) (fun hty j => ?_) (fun hty hb0 j hj => ?_) kk
  · show ∀ k', i32 (up2 h.2.1 a k z a k')
    rw [up2_s]; exact up1_i32 hr hz
  · show _ = fv_V _ _ (up2 h.2.1 a k z a) _ _ j
    rw [up2_s]; exact (fvi_up (Or.inl hty) j).symm
  · show up2 h.2.1 a k z a j = 0 ∨ up2 h.2.1 a k z a j = 1
    rw [up2_s]
    unfold up1
    by_cases hjk : j = k
    · subst hjk; rw [hty] at hj; cases hj
    · rw [if_neg hjk]; exact hb0 j hj
theorem A_putZ {idx c k : Nat} {fin : Bool} {a n : Nat} {z : Int} (hT : tbl_OK) (hd : decode M.2.1 pc = .ok (.putfield idx, 3)) (hf : fl_OK M.1.cls idx c k .boolean fin) (hs : h.1[a]? = some (c + 4, n)) (hfin : fin_OK M c fin) (h01 : z = 0 ∨ z = 1) (kk : aw G R M cu su (pc + 3) L st (st_i h a k z) Q) : aw G R M cu su pc L (av_I z :: av_R (some a) :: st) h Q := by
  refine put_W (h' := st_i h a k z) hT hd hf hs hfin (fun _ => ⟨nar_b h01, fit_b h01⟩) rfl (fun x hx => ⟨up2_n hx, rfl, rfl⟩) (fun hz hr => ?_) (fun _ hr => hr) (fun hty j => ?_) (fun hty hb0 j hj => ?_) kk
  · show ∀ k', i32 (up2 h.2.1 a k z a k')
    rw [up2_s]; exact up1_i32 hr hz
  · show _ = fv_V _ _ (up2 h.2.1 a k z a) _ _ j
    rw [up2_s]; exact (fvi_up (Or.inr hty) j).symm
  · show up2 h.2.1 a k z a j = 0 ∨ up2 h.2.1 a k z a j = 1
    rw [up2_s]
    unfold up1
    by_cases hjk : j = k
    · rw [if_pos hjk]; exact h01
    · rw [if_neg hjk]; exact hb0 j hj
theorem A_putL {idx c k : Nat} {fin : Bool} {a n : Nat} {z : Int} (hT : tbl_OK) (hd : decode M.2.1 pc = .ok (.putfield idx, 3)) (hf : fl_OK M.1.cls idx c k .long fin) (hs : h.1[a]? = some (c + 4, n)) (hfin : fin_OK M c fin) (kk : aw G R M cu su (pc + 3) L st (st_l h a k z) Q) : aw G R M cu su pc L (av_L z :: av_R (some a) :: st) h Q := by
  refine put_W (h' := st_l h a k z) hT hd hf hs hfin (fun _ => ⟨rfl, rfl⟩) rfl (fun x hx => ⟨rfl, up2_n hx, rfl⟩) (fun _ hr => hr) (fun hz hr => ?_) (fun hty j => ?_) (fun hty hb0 => hb0) kk
  · show ∀ k', i64 (up2 h.2.2.1 a k z a k')
    rw [up2_s]; exact up1_i64 hr hz
  · show _ = fv_V _ _ _ (up2 h.2.2.1 a k z a) _ j
    rw [up2_s]; exact (fvl_up hty j).symm
theorem A_putR {idx c k : Nat} {ty : FieldType} {fin : Bool} {a n : Nat} {z : Option Nat} (hT : tbl_OK) (hd : decode M.2.1 pc = .ok (.putfield idx, 3)) (hf : fl_OK M.1.cls idx c k ty fin) (hty : (∃ n, ty = .object n) ∨ ∃ n, ty = .array n) (hs : h.1[a]? = some (c + 4, n)) (hfin : fin_OK M c fin) (kk : aw G R M cu su (pc + 3) L st (st_r h a k z) Q) : aw G R M cu su pc L (av_R z :: av_R (some a) :: st) h Q := by
  refine put_W (h' := st_r h a k z) hT hd hf hs hfin (fun _ => fit_r hty _ z) rfl (fun x hx => ⟨rfl, rfl, up2_n hx⟩) (fun _ hr => hr) (fun _ hr => hr) (fun hty2 j => ?_) (fun hty hb0 => hb0) kk
  show _ = fv_V _ _ _ _ (up2 h.2.2.2 a k z a) j
  rw [up2_s]; exact (fvr_up (by rw [hty2]; exact hty) j).symm
/-! arrays -/
theorem ix_in {n : Nat} {i : Int} (hi : i32 i) (h0 : 0 ≤ i) (h1 : i < n) (cI : ClassId) (f : Nat → Value) : ¬ (Int32.ofInt i < 0 ∨ (arrV cI n f).slots.size ≤ (Int32.ofInt i).toNatClampNeg) := by
  rw [arrV_size]
  exact i32_in hi h0 h1
theorem ix_rd {n : Nat} {i : Int} (hi : i32 i) (h0 : 0 ≤ i) (h1 : i < n) (cI : ClassId) (f : Nat → Value) : (arrV cI n f).slots[(Int32.ofInt i).toNatClampNeg]? = some (f i.toNat) := by
  rw [i32_cl hi h0, arrV_read _ _ (by omega)]
theorem A_ialoadN {a n : Nat} {i : Int} (hd : decode M.2.1 pc = .ok (.iaload, 1)) (hs : h.1[a]? = some (0, n)) (h0 : 0 ≤ i) (h1 : i < n) (kk : aw G R M cu su (pc + 1) L (av_I (h.2.1 a i.toNat) :: st) h Q) : aw G R M cu su pc L (av_I i :: av_R (some a) :: st) h Q := by
  intro p e s m args below meth cd H locs ls S hH hO hS hb hL hn
  exact W.iald (v := .int (Int32.ofInt (h.2.1 a i.toNat))) S.1 S.2.1 (hH.2.1 a _ _ hs) ((c_arr_K S.2.2.2.2.2.1 0 _ rfl).1 n _) (fun q => by cases q) (ix_in (nv_h hn) h0 h1 _ _) (ix_rd (nv_h hn) h0 h1 _ _) rfl rfl hd (kk p e s m args below meth cd H locs ls S hH hO hS hb hL (nv_c (hH.2.2.2.1 _ _) (nv_t (nv_t hn))))
theorem A_laloadN {a n : Nat} {i : Int} (hd : decode M.2.1 pc = .ok (.laload, 1)) (hs : h.1[a]? = some (1, n)) (h0 : 0 ≤ i) (h1 : i < n) (kk : aw G R M cu su (pc + 1) L (av_L (h.2.2.1 a i.toNat) :: st) h Q) : aw G R M cu su pc L (av_I i :: av_R (some a) :: st) h Q := by
  intro p e s m args below meth cd H locs ls S hH hO hS hb hL hn
  exact W.lald (v := .long (Int64.ofInt (h.2.2.1 a i.toNat))) S.1 S.2.1 (hH.2.1 a _ _ hs) ((c_arr_K S.2.2.2.2.2.1 1 _ rfl).1 n _) (fun q => by cases q) (ix_in (nv_h hn) h0 h1 _ _) (ix_rd (nv_h hn) h0 h1 _ _) rfl rfl hd (kk p e s m args below meth cd H locs ls S hH hO hS hb hL (nv_c (hH.2.2.2.2 _ _) (nv_t (nv_t hn))))
theorem A_zaloadN {a n : Nat} {i : Int} (hd : decode M.2.1 pc = .ok (.baload, 1)) (hs : h.1[a]? = some (2, n)) (h0 : 0 ≤ i) (h1 : i < n) (kk : (h.2.1 a i.toNat = 0 ∨ h.2.1 a i.toNat = 1) → aw G R M cu su (pc + 1) L (av_I (h.2.1 a i.toNat) :: st) h Q) : aw G R M cu su pc L (av_I i :: av_R (some a) :: st) h Q := by
  intro p e s m args below meth cd H locs ls S hH hO hS hb hL hn
  exact W.zald (v := .int (Int32.ofInt (h.2.1 a i.toNat))) S.1 S.2.1 (hH.2.1 a _ _ hs).1 ((c_arr_K S.2.2.2.2.2.1 2 _ rfl).1 n _) (fun q => by cases q) (ix_in (nv_h hn) h0 h1 _ _) (ix_rd (nv_h hn) h0 h1 _ _) rfl rfl hd (kk ((hH.2.1 a _ _ hs).2 _) p e s m args below meth cd H locs ls S hH hO hS hb hL (nv_c (hH.2.2.2.1 _ _) (nv_t (nv_t hn))))
theorem A_aaloadN {a n : Nat} {i : Int} (hd : decode M.2.1 pc = .ok (.aaload, 1)) (hs : h.1[a]? = some (3, n)) (h0 : 0 ≤ i) (h1 : i < n) (kk : aw G R M cu su (pc + 1) L (av_R (h.2.2.2 a i.toNat) :: st) h Q) : aw G R M cu su pc L (av_I i :: av_R (some a) :: st) h Q := by
  intro p e s m args below meth cd H locs ls S hH hO hS hb hL hn
  exact W.aald (v := va_rf ((h.2.2.2 a i.toNat).map (fun a => cx_b G + a))) (ty := .object RX10) S.1 S.2.1 (hH.2.1 a _ _ hs) ((c_arr_K S.2.2.2.2.2.1 3 _ rfl).1 n _) rfl (fun q => by cases q) (ix_in (nv_h hn) h0 h1 _ _) (ix_rd (nv_h hn) h0 h1 _ _) rfl rfl hd (kk p e s m args below meth cd H locs ls S hH hO hS hb hL (nv_c trivial (nv_t (nv_t hn))))
theorem A_iastoreN {a n : Nat} {i z : Int} (hd : decode M.2.1 pc = .ok (.iastore, 1)) (hs : h.1[a]? = some (0, n)) (h0 : 0 ≤ i) (h1 : i < n) (kk : aw G R M cu su (pc + 1) L st (st_i h a i.toNat z) Q) : aw G R M cu su pc L (av_I z :: av_I i :: av_R (some a) :: st) h Q := by
  intro p e s m args below meth cd H locs ls S hH hO hS hb hL hn
  refine W.iast S.1 S.2.1 (hH.2.1 a _ _ hs) ((c_arr_K S.2.2.2.2.2.1 0 _ rfl).1 n _) (fun q => by cases q) (ix_in (nv_h (nv_t hn)) h0 h1 _ _) rfl rfl hd fun H1 e1 e2 e3 => ?_
  refine kk p e s m args below meth cd H1 _ ls S ?_ hO (hS.put e2 e3 (Nat.le_add_right _ _)) hb hL (nv_t (nv_t (nv_t hn)))
  refine hr_upd hH hs rfl (fun x hx => ⟨up2_n hx, rfl, rfl⟩) ?_ (hH.2.2.2.2 a) e2 e3 ?_
  · show ∀ k', i32 (up2 h.2.1 a i.toNat z a k')
    rw [up2_s]; exact up1_i32 (hH.2.2.2.1 a) (nv_h hn)
  · show H1[_]? = some (arrV _ _ fun j => .int (Int32.ofInt (up2 h.2.1 a i.toNat z a j)))
    rw [e1, arrV_store, up2_s, i32_cl (nv_h (nv_t hn)) h0]
    congr 2
    funext j
    by_cases hj : j = i.toNat <;> simp [updV, up1, hj]
theorem A_lastoreN {a n : Nat} {i z : Int} (hd : decode M.2.1 pc = .ok (.lastore, 1)) (hs : h.1[a]? = some (1, n)) (h0 : 0 ≤ i) (h1 : i < n) (kk : aw G R M cu su (pc + 1) L st (st_l h a i.toNat z) Q) : aw G R M cu su pc L (av_L z :: av_I i :: av_R (some a) :: st) h Q := by
  intro p e s m args below meth cd H locs ls S hH hO hS hb hL hn
  refine W.last S.1 S.2.1 (hH.2.1 a _ _ hs) ((c_arr_K S.2.2.2.2.2.1 1 _ rfl).1 n _) (fun q => by cases q) (ix_in (nv_h (nv_t hn)) h0 h1 _ _) rfl rfl hd fun H1 e1 e2 e3 => ?_
  refine kk p e s m args below meth cd H1 _ ls S ?_ hO (hS.put e2 e3 (Nat.le_add_right _ _)) hb hL (nv_t (nv_t (nv_t hn)))
  refine hr_upd hH hs rfl (fun x hx => ⟨rfl, up2_n hx, rfl⟩) (hH.2.2.2.1 a) ?_ e2 e3 ?_
  · show ∀ k', i64 (up2 h.2.2.1 a i.toNat z a k')
    rw [up2_s]; exact up1_i64 (hH.2.2.2.2 a) (nv_h hn)
  · show H1[_]? = some (arrV _ _ fun j => .long (Int64.ofInt (up2 h.2.2.1 a i.toNat z a j)))
    rw [e1, arrV_store, up2_s, i32_cl (nv_h (nv_t hn)) h0]
    congr 2
    funext j
    by_cases hj : j = i.toNat <;> simp [updV, up1, hj]
theorem A_zastoreN {a n : Nat} {i z : Int} (hd : decode M.2.1 pc = .ok (.bastore, 1)) (hs : h.1[a]? = some (2, n)) (h0 : 0 ≤ i) (h1 : i < n) (h01 : z = 0 ∨ z = 1) (kk : aw G R M cu su (pc + 1) L st (st_i h a i.toNat z) Q) : aw G R M cu su pc L (av_I z :: av_I i :: av_R (some a) :: st) h Q := by
  intro p e s m args below meth cd H locs ls S hH hO hS hb hL hn
  refine W.zast S.1 S.2.1 (hH.2.1 a _ _ hs).1 ((c_arr_K S.2.2.2.2.2.1 2 _ rfl).1 n _) (fun q => by cases q) (ix_in (nv_h (nv_t hn)) h0 h1 _ _) rfl rfl hd fun H1 e1 e2 e3 => ?_
  refine kk p e s m args below meth cd H1 _ ls S ?_ hO (hS.put e2 e3 (Nat.le_add_right _ _)) hb hL (nv_t (nv_t (nv_t hn)))
  refine hr_upd hH hs rfl (fun x hx => ⟨up2_n hx, rfl, rfl⟩) ?_ (hH.2.2.2.2 a) e2 e3 ⟨?_, ?_⟩
  · show ∀ k', i32 (up2 h.2.1 a i.toNat z a k')
    rw [up2_s]; exact up1_i32 (hH.2.2.2.1 a) (nv_h hn)
  · show H1[_]? = some (arrV _ _ fun j => .int (Int32.ofInt (up2 h.2.1 a i.toNat z a j)))
    rw [e1, arrV_store, up2_s, i32_cl (nv_h (nv_t hn)) h0, nar_b h01]
    congr 2
    funext j
    by_cases hj : j = i.toNat <;> simp [updV, up1, hj]
  · show ∀ j, up2 h.2.1 a i.toNat z a j = 0 ∨ up2 h.2.1 a i.toNat z a j = 1
    intro j
    rw [up2_s]
    unfold up1
    split
    · exact h01
    · exact (hH.2.1 a _ _ hs).2 j
theorem A_aastoreN {a n v nn : Nat} {i : Int} (hd : decode M.2.1 pc = .ok (.aastore, 1)) (hs : h.1[a]? = some (3, n)) (hs2 : h.1[v]? = some (10 + 4, nn)) (h0 : 0 ≤ i) (h1 : i < n) (kk : aw G R M cu su (pc + 1) L st (st_r h a i.toNat (some v)) Q) : aw G R M cu su pc L (av_R (some v) :: av_I i :: av_R (some a) :: st) h Q := by
  intro p e s m args below meth cd H locs ls S hH hO hS hb hL hn
  obtain ⟨r, r1, r2, ⟨cellV, g1, g2, g3, -⟩, -⟩ := hH.2.1 v _ _ hs2
  have hr : r = (RX10, TX10, 17) := Option.some.inj (r1.symm.trans rfl)
  subst hr
  have hcls := (S.2.2.2.2.2.1.1.1 10 _ rfl).2
  obtain ⟨kA, comp, k1, k2, k3, -⟩ := (c_arr_K S.2.2.2.2.2.1 3 _ rfl).2
  have hcomp : comp = cx_dC G 10 := Option.some.inj (k3.symm.trans hcls.1)
  subst hcomp
  obtain ⟨kC, hkC, -⟩ := hcls.2
  have hin := i32_in (nv_h (nv_t hn)) h0 h1
  refine W.aast S.1 S.2.1 (hH.2.1 a _ _ hs) (fun q h => by cases h) (fun h => by cases h) k1 k2 rfl hkC ⟨fun q => hin (Or.inl q), by rw [arrV_size]; exact Nat.not_le.mp fun q => hin (Or.inr q)⟩ g1 (fun q h => by rw [g3] at h; cases h) (by rw [g2]; exact hkC) (by rw [g2]; exact va_assign hcls) rfl rfl hd fun H1 e1 e2 e3 => ?_
  refine kk p e s m args below meth cd H1 _ ls S ?_ hO (hS.put e2 e3 (Nat.le_add_right _ _)) hb hL (nv_t (nv_t (nv_t hn)))
  refine hr_upd hH hs rfl (fun x hx => ⟨rfl, rfl, up2_n hx⟩) (hH.2.2.2.1 a) (hH.2.2.2.2 a) e2 e3 ?_
  show H1[_]? = some (arrV _ _ fun j => va_rf ((up2 h.2.2.2 a i.toNat (some v) a j).map _))
  rw [e1, arrV_store, up2_s, i32_cl (nv_h (nv_t hn)) h0]
  congr 2
  funext j
  by_cases hj : j = i.toNat <;> simp [updV, up1, hj, va_rf]
theorem A_alenN {a kd n : Nat} (hd : decode M.2.1 pc = .ok (.arraylength, 1)) (hs : h.1[a]? = some (kd, n)) (hkd : kd < 4) (hnn : n < 2147483648) (kk : aw G R M cu su (pc + 1) L (av_I (n : Int) :: st) h Q) : aw G R M cu su pc L (av_R (some a) :: st) h Q := by
  intro p e s m args below meth cd H locs ls S hH hO hS hb hL hn
  have hc := hH.2.1 a _ _ hs
  have hk := kk p e s m args below meth cd H locs ls S hH hO hS hb hL (nv_c (by show i32 _; unfold i32; omega) (nv_t hn))
  have hI : Int32.ofInt (n : Int) = Int32.ofNat n := rfl
  match kd, hkd, hc with
  | 0, _, hc => exact W.alen (n := Int32.ofInt (n : Int)) S.1 S.2.1 hc ((c_arr_K S.2.2.2.2.2.1 0 _ rfl).1 n _) (by rw [arrV_size]; rfl) rfl rfl hd hk
  | 1, _, hc => exact W.alen (n := Int32.ofInt (n : Int)) S.1 S.2.1 hc ((c_arr_K S.2.2.2.2.2.1 1 _ rfl).1 n _) (by rw [arrV_size]; rfl) rfl rfl hd hk
  | 2, _, hc => exact W.alen (n := Int32.ofInt (n : Int)) S.1 S.2.1 hc.1 ((c_arr_K S.2.2.2.2.2.1 2 _ rfl).1 n _) (by rw [arrV_size]; rfl) rfl rfl hd hk
  | 3, _, hc => exact W.alen (n := Int32.ofInt (n : Int)) S.1 S.2.1 hc ((c_arr_K S.2.2.2.2.2.1 3 _ rfl).1 n _) (by rw [arrV_size]; rfl) rfl rfl hd hk
theorem A_ialoadS {k : Nat} {i : Int} (hd : decode M.2.1 pc = .ok (.iaload, 1)) (hk : k < n_RO) (h0 : 0 ≤ i) (h1 : i < cx_rl G k) (kk : aw G R M cu su (pc + 1) L (av_I (cx_rv G k i.toNat) :: st) h Q) : aw G R M cu su pc L (av_I i :: av_S k :: st) h Q := by
  intro p e s m args below meth cd H locs ls S hH hO hS hb hL hn
  exact va_ti S.1 S.2.1 (hO.1 k hk).1 hS (i32_in (nv_h hn) h0 h1) (v := .int (Int32.ofInt (cx_rv G k i.toNat))) (by rw [i32_cl (nv_h hn) h0]) hd (kk p e s m args below meth cd H locs ls S hH hO hS hb hL (nv_c ((hO.1 k hk).2 _) (nv_t (nv_t hn))))
theorem A_alenS {k : Nat} (hd : decode M.2.1 pc = .ok (.arraylength, 1)) (hk : k < n_RO) (hl : cx_rl G k < 2147483648) (kk : aw G R M cu su (pc + 1) L (av_I (cx_rl G k : Int) :: st) h Q) : aw G R M cu su pc L (av_S k :: st) h Q := by
  intro p e s m args below meth cd H locs ls S hH hO hS hb hL hn
  exact va_tlen S.1 S.2.1 (hO.1 k hk).1 hS (v := Int32.ofInt (cx_rl G k : Int)) rfl hd (kk p e s m args below meth cd H locs ls S hH hO hS hb hL (nv_c (by show i32 _; unfold i32; omega) (nv_t hn)))
end AWH
