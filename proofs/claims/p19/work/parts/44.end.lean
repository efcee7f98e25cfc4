/-! THE CLAIM OUT OF ONE WALK OF THE LAW'S BODY. Your part is whole_start (and what it stands on); all else here is the same for every law, but numbers. -/
def R_law : String := "PlainMusicLaw"
def lw_P (b : Addr) (xs : List Int32) (args : Array Value) (s : State) : Prop := args = #[.ref b] ∧ s.IntsAt b xs ∧ xs.length ≤ 3072 ∧ (Jvm.Cond.and given_1 narrow_1).before args s = true
def lw_Q (_ : Array Value) (s : State) (o : Outcome) (t : State) : Prop := o = .returned (some (.int 1)) ∧ Framed s o t [] 600000 7302250
def lw_Z (below : List Frame) (a : Array Value) (s : State) : State → Prop := fun t => ∃ o, t.status = .running ∧ Ended t below o ∧ lw_Q a s o t
/-- the law's own end, with 1 on the stack, nothing written that was there before, its room as the claim has it -/
theorem lw_ret {p : Program} {l : Launch} {e : Env} {s : State} {m : MethodId} {below : List Frame} {meth : Method} {c : Code} {b : Nat} (hx : p.tables.exec = Jvm.exec) (hb : c.code = code) (hr : meth.sig.returnType = ret) (hlocks : meth.locks = false) {pc : Nat} {H : Heap} {ls : Array Slot} (hdg : decode code pc = .ok (.ireturn, 1)) : W p l e room_1 s m #[Value.ref b] below meth c H [] 600000 7302250 (lw_Z below #[Value.ref b] s) (F0 m pc ls [.int 1]) := by
  intro T hT X
  obtain ⟨fs, hret, hrun, hended, hW, hframe⟩ := X.leave (v := some (.int 1)) (hlocks := hlocks) (fun h => by rw [hr] at h; cases h)
  have hmeth' : T.vm.method? m = some meth := X.method'
  refine ⟨T.setFrames fs, ?_, .returned (some (.int 1)), hrun, hended, rfl, ⟨_, rfl⟩, hW, hframe⟩
  jvm_step X.here [X.here.top, hx, hb, hdg, hmeth', hr, ret, narrow_b1]
  (try refine ⟨rfl, ?_⟩); (try refine ⟨rfl, ?_⟩)
  first | (intro acts; rw [hret _ acts rfl rfl rfl]) | rw [hret _ _ rfl rfl rfl]
  exact Steps.refl _
/-- what holds at the law's entry: the machine, the code, the tables' words (any of lw_tbl by 'hts w (by decide +kernel)'), the script of L ints xs at the cell b, what the Statement gives of the start (any of its parts by flat_of_before) -/
def lw_At (p : Program) (s : State) (m : MethodId) (meth : Method) (c : Code) (b L : Nat) (xs : Nat → Int32) : Prop :=
  p.tables.exec = Jvm.exec ∧ c.code = code ∧ meth.sig.returnType = ret ∧ c.maxLocals = 8 ∧ s.vm.findClass R_law = some m.cls ∧ (∀ w ∈ lw_tbl, w.before #[Value.ref b] s = true) ∧ va_X b L xs s s.heap ∧ b < s.heap.size ∧ meth.locks = false ∧ (Jvm.Cond.and given_1 narrow_1).before #[Value.ref b] s = true
/-! ===== the law's contract out of the walk ===== -/
theorem fe_Z {G : cx_T} {below : List Frame} {s t : State} {a : Array Value} (hb : cx_b G = s.heap.size) (h : MQ below (qc_Q G (fun r _ => r = some (av_I 1))) a s room_1.cells room_1.slots (fr_A G) t) : lw_Z below a s t := by
  obtain ⟨o, h1, h2, ⟨⟨r, h', ho, -, hr, -, -⟩, -⟩, LL, hF, hL⟩ := h
  subst hr
  refine ⟨o, h1, h2, ho, hF.1, hF.2.1, ?_⟩
  refine hF.2.2.weaken (fun y hy hlt => ?_) (Nat.le_refl _) (Nat.le_refl _)
  have := hL y hy
  exact absurd hlt (Nat.not_lt.mpr (by rw [← hb]; exact this))
theorem arr_ex {s : State} {args : Array Value} {ty : FieldType} (h : (Cond.arrayClass ty).before args s = true) : ∃ c, s.vm.findClass ("[" ++ ty.toString) = some c ∧ ArrOfT s c ty := by
  obtain ⟨c, k, comp, h1, h2, h3⟩ := Cond.arrayClass_spec h
  exact ⟨c, h1, fun n z => ⟨(fun q hq => by cases hq), k, h2, comp, h3⟩⟩
theorem arr_exV {s : State} {args : Array Value} (h : (Cond.arrayOver (.object RX10)).before args s = true) : ∃ c, ArrOfT s c (.object RX10) ∧ va_RA s c (.object RX10) := by
  obtain ⟨comp, c, k, h1, h2, h3, h4, h5⟩ := Cond.arrayOver_spec h
  exact ⟨c, fun n z => ⟨(fun q hq => by cases hq), k, h3, comp, h4⟩, k, comp, h3, h4, h1, h5⟩
set_option maxHeartbeats 4000000 in
/-- THE LAW, from its entry -/
theorem whole_start {p : Program} {e : Env} {s : State} {m : MethodId} {below : List Frame} {meth : Method} {c : Code} (l : Launch) {b L : Nat} {xs : Nat → Int32} (hL : L ≤ 3072) (C0 : lw_At p s m meth c b L xs) : W p l e room_1 s m #[Value.ref b] below meth c s.heap [] 0 0 (lw_Z below #[Value.ref b] s) (entryFrame m ([Value.ref b] : List Value).toArray 8) := by
  obtain ⟨hx, hb, hr, hml, hown, hts, hX, hbl, hlocks, hgv⟩ := id C0
  have hgw : ∀ w ∈ gw, w.before #[Value.ref b] s = true := fun w hw => hts w (List.mem_filter.mp hw).1
  have hKn : ∀ c : Nat, ∃ (dc : ClassId) (di : Nat → Nat), ∀ q : vw_C, classes[c]? = some q → u_Kn s q.1 q.2.1 q.2.2 dc di := by
    intro c
    cases hq : classes[c]? with
    | none => exact ⟨0, fun _ => 0, fun q h => by cases h⟩
    | some q =>
      obtain ⟨k1, k2, k3, k4, k5, k6⟩ := T_ok c q hq
      obtain ⟨dc, di, h⟩ := u_known (C := q.1) (T := q.2.1) (N := q.2.2) (n := q.2.2) hgw k1 (hgw _ k4)
      exact ⟨dc, di, fun q' h' => by cases h'; exact h⟩
  obtain ⟨a0, f0, r0⟩ := arr_ex (hgw _ ac_int)
  obtain ⟨a1, f1, r1⟩ := arr_ex (hgw _ ac_long)
  obtain ⟨a2, f2, r2⟩ := arr_ex (hgw _ ac_boolean)
  obtain ⟨a3, r3, f3⟩ := arr_exV (hts _ ao_V)
  obtain ⟨t1, ht1, hz1⟩ := rs_1 hgv hts
  obtain ⟨t2, ht2, hz2⟩ := rs_2 hgv hts
  obtain ⟨t3, ht3, hz3⟩ := rs_3 hgv hts
  have hzc := rs_c hgv hts
  obtain ⟨tf, hzf⟩ := rs_f hgv hts
  obtain ⟨adK, adV, hzk, hek⟩ := rs_k hgv hts
  have hzr := rs_r hgv hts hek
  let ra : Nat → Nat := fun k => if k = 0 then b else if k = 1 then t1 else if k = 2 then t2 else if k = 3 then t3 else if k = 9 then tf else if k < 20 then adK (k - 10) else adV (k - 20)
  let rl : Nat → Nat := fun k => if k = 0 then L else if k = 1 then 7 else 12
  let rv : Nat → Nat → Int := fun k j => if k = 0 then (xs j).toInt else if k = 1 then ([0, 2, 4, 5, 7, 9, 11] : List Int).getD j 0 else if k = 2 then ([1, 16, 9, 6, 5, 4, 45, 3, 8, 5, 9, 15] : List Int).getD j 0 else ([1, 15, 8, 5, 4, 3, 32, 2, 5, 3, 5, 8] : List Int).getD j 0
  let G : cx_T := (s.heap.size, ra, rl, rv, fun c => Classical.choose (hKn c), fun c => Classical.choose (Classical.choose_spec (hKn c)), fun k => if k = 0 then a0 else if k = 1 then a1 else if k = 2 then a2 else a3, l)
  have hkf : kf_OK G s := by
    refine ⟨⟨fun c q hq => Classical.choose_spec (Classical.choose_spec (hKn c)) q hq, fun k q hq => ?_⟩, fun w hw hn => ?_⟩
    · match k, hq with
      | 0, hq => cases hq; exact ⟨r0, f0⟩
      | 1, hq => cases hq; exact ⟨r1, f1⟩
      | 2, hq => cases hq; exact ⟨r2, f2⟩
      | 3, hq => cases hq; exact ⟨r3, f3⟩
      | k + 4, hq => simp [c_arr] at hq
    · have h1 := hts w hw
      cases w <;> first | exact va_Nw.of rfl h1 | (simp [nestW] at hn; done) | skip
      rename_i ty
      cases ty <;> first | exact va_AO.of h1 | (simp [nestW] at hn; done)
  have hH : hr_OK G hp_e s.heap := ⟨rfl, fun a kd n h => by simp [hp_e] at h, fun _ _ _ => ⟨rfl, rfl, rfl⟩, fun _ _ => i32_0, fun _ _ => i64_0⟩
  have hO1 : ∀ k, k < n_RO → va_T .int (ra k) (rl k) (fun j => .int (Int32.ofInt (rv k j))) (fun q => s.heap.size ≤ q) s s.heap ∧ ∀ j, i32 (rv k j) := by
    intro k hk
    have hk4 : k < 4 := hk
    rcases (by omega : k = 0 ∨ k = 1 ∨ k = 2 ∨ k = 3) with rfl | rfl | rfl | rfl
    · obtain ⟨scr, x1, x2, x3, x4, x5⟩ := hX
      refine ⟨⟨scr, x1, x2, x3, Nat.le_of_eq x4.symm, (by rw [x4]; rfl), fun j hj => ?_, Nat.not_le.mpr hbl⟩, fun j => i32_of _⟩
      show scr.slots[j]? = some (.int (Int32.ofInt (xs j).toInt))
      rw [i32_rt]
      exact x5 j hj
    · exact ⟨ht1, gD_i (by decide)⟩
    · exact ⟨ht2, gD_i (by decide)⟩
    · exact ⟨ht3, gD_i (by decide)⟩
  have hO2 : ro_St G s s.heap := by
    refine ⟨fun q hq => ?_, hzc, ?_, ?_, ?_⟩
    · have hq3 : q = ("NATURALS", 1, [0, 2, 4, 5, 7, 9, 11]) ∨ q = ("RATIO_TOPS", 2, [1, 16, 9, 6, 5, 4, 45, 3, 8, 5, 9, 15]) ∨ q = ("RATIO_BOTTOMS", 3, [1, 15, 8, 5, 4, 3, 32, 2, 5, 3, 5, 8]) := by
        simp only [st_L, List.mem_cons, List.not_mem_nil, or_false] at hq
        exact hq
      rcases hq3 with rfl | rfl | rfl
      · exact ⟨hz1, rfl, fun j _ => rfl⟩
      · exact ⟨hz2, rfl, fun j _ => rfl⟩
      · exact ⟨hz3, rfl, fun j _ => rfl⟩
    · have e1 : ∀ i, i < 7 → ra (10 + i) = adK i := by
        intro i hi
        rcases (by omega : i = 0 ∨ i = 1 ∨ i = 2 ∨ i = 3 ∨ i = 4 ∨ i = 5 ∨ i = 6) with rfl | rfl | rfl | rfl | rfl | rfl | rfl <;> rfl
      have e2 : ∀ i, i < 7 → ra (20 + i) = adV i := by
        intro i hi
        rcases (by omega : i = 0 ∨ i = 1 ∨ i = 2 ∨ i = 3 ∨ i = 4 ∨ i = 5 ∨ i = 6) with rfl | rfl | rfl | rfl | rfl | rfl | rfl <;> rfl
      obtain ⟨k1, k2⟩ := hzk
      refine ⟨fun i hi => ?_, fun i j hi hj hij => ?_⟩
      · show va_O "java/lang/String" (ra (10 + i)) _ _ _ ∧ va_OF "java/lang/String" "coder" "B" (.int 0) (ra (10 + i)) _ _ _ ∧ va_OF "java/lang/String" "value" "[B" (.ref (ra (20 + i))) (ra (10 + i)) _ _ _ ∧ va_T .byte (ra (20 + i)) _ _ _ _ _
        rw [e1 i hi, e2 i hi]
        exact k1 i hi
      · have h' : ra (10 + i) = ra (10 + j) := hij
        rw [e1 i hi, e1 j hj] at h'
        exact k2 i j hi hj h'
    · intro i q hq
      have hi : i < 7 := by
        rcases Nat.lt_or_ge i 7 with h | h
        · exact h
        · rw [List.getElem?_eq_none (by show 7 ≤ i; omega)] at hq
          cases hq
      have e1 : ra (10 + i) = adK i := by
        rcases (by omega : i = 0 ∨ i = 1 ∨ i = 2 ∨ i = 3 ∨ i = 4 ∨ i = 5 ∨ i = 6) with rfl | rfl | rfl | rfl | rfl | rfl | rfl <;> rfl
      show vk_R _ _ _ (ra (10 + i)) s
      rw [e1]
      exact hzr i q hq
    · exact hzf
  have hO : ro_OK G s s.heap := ⟨hO1, hO2⟩
  have hst : st_OK G m_Law_law p s m #[Value.ref b] meth c := ⟨hx, hb, hml, hown, hgw, hkf, hr, hlocks, fun h => absurd h (by decide)⟩
  have hA : (∀ v ∈ [av_S 0], nv v) := fun v hv => by rw [List.mem_singleton.mp hv]; exact trivial
  have hw := law_aw (G := G) hL p e s m #[Value.ref b] below meth c s.heap [] _ hst hH hO va_S.rf (Nat.le_refl _) (lr_entry (G := G) (n := 8) (As := [av_S 0]) hA (by decide)) (fun v hv => by cases hv)
  rw [lg_entry_eq]
  intro T hT X
  obtain ⟨t, h1, h2⟩ := hw T hT X
  exact ⟨t, h1, fe_Z rfl h2⟩
set_option maxHeartbeats 4000000 in
theorem lw_walk (l : Launch) (b : Addr) (xs : List Int32) : MetFree l x (headSpec (Jvm.Cond.code x code maxLocals ret :: tables_1) room_1) (lw_P b xs) (fun _ _ _ _ _ => True) lw_Q := by
  refine MetFree.of_bodyS (code := code) (maxLocals := maxLocals) (ret := ret) (by decide) ?_ ?_
  · intro args s m h hn
    obtain ⟨meth, c, h1, h2, h3, h4, h5, h6, -, -⟩ := Cond.code_spec hn (atoms_spec (ws := Jvm.Cond.code x code maxLocals ret :: tables_1) h _ List.mem_cons_self)
    exact ⟨meth, c, h1, h2, h3, h4, h5, h6⟩
  · intro p e s m args below meth c s₁ B hml0 hP _
    obtain ⟨rfl, hx, hbd, hgv⟩ := hP
    obtain ⟨scr, harrAt, hlist, hof, hsmall⟩ := hx
    obtain ⟨hcb, hkn, -, -⟩ := State.arrayAt?_spec harrAt
    have hown : s.vm.findClass R_law = some m.cls := findClass_of_methodNamed B.named
    have hts0 : ∀ c ∈ (Jvm.Cond.code x code maxLocals ret :: tables_1), c.before #[Value.ref b] s = true := atoms_spec (ws := Jvm.Cond.code x code maxLocals ret :: tables_1) B.pre
    have hts : ∀ w ∈ lw_tbl, w.before #[Value.ref b] s = true := k2_hts_sels lw_privs (fun w hw => hts0 w (List.mem_cons_of_mem _ hw)) lw_privs_ok
    have hml : c.maxLocals = 8 := B.maxLocals_eq (hts0 _ List.mem_cons_self)
    have X₀ : Stand p l e room_1 s m #[Value.ref b] below meth c s₁ [] 0 0 := Stand.of_body B
    have hh0 : s₁.heap = s.heap := by rw [B.state]; rfl
    have hsz : scr.slots.size = xs.length := by rw [← Array.length_toList, hlist, List.length_map]
    have hval : ∀ j : Nat, j < xs.length → scr.slots[j]? = some (.int (xs.getD j 0)) := fun j hj => by
      rw [← Array.getElem?_toList, hlist]
      simp [hj]
    have hbl : b < s.heap.size := (Array.getElem?_eq_some_iff.mp hcb).1
    have hX : va_X b xs.length (fun j => xs.getD j 0) s s.heap := ⟨scr, hcb, hof, hkn, hsz, hval⟩
    have K : W p l e room_1 s m #[Value.ref b] below meth c s₁.heap [] 0 0 (lw_Z below #[Value.ref b] s) (entryFrame m ([Value.ref b] : List Value).toArray 8) := by
      rw [hh0]
      exact whole_start l hbd ⟨B.exec, B.bytes, B.returns, hml, hown, hts, hX, hbl, B.notSynchronized, hgv⟩
    obtain ⟨t, a1, o, b1, b2, b3⟩ := K s₁ rfl X₀
    exact ⟨t, o, a1, b1, b2, b3⟩
theorem lw_pre_spec {args : Array Value} {s : State} (h : (Jvm.Cond.and given_1 narrow_1).before args s = true) (hr : rest_1_c.before args s = true) : ∃ (b : Addr) (xs : List Int32), lw_P b xs args s := by
  have hs := flat_of_before _ h
  have hq := flat_of_before _ hr
  have hc : (Cond.count 1).before args s = true := hs _ (by decide +kernel)
  have harr : (Cond.arrayOf (.arg 0) .int).before args s = true := hs _ (by decide +kernel)
  have hle : (Cond.le (.length (.arg 0)) (.int 3072)).before args s = true := hs _ (by decide +kernel)
  have hlen : (Cond.isInt (.length (.arg 0))).before args s = true := hq _ (by decide +kernel)
  have hall : (Cond.all (.arg 0) (.isInt (.elem (.arg 0) (.index 0)))).before args s = true := hq _ (by decide +kernel)
  obtain ⟨b, xs, hb, hx⟩ := State.ints_of_pre rfl harr hlen hall
  have hsm : xs.length < 2 ^ 31 := hx.choose_spec.2.2.2
  have hev : (Term.length (.arg 0)).eval args s none [] s = some (.int xs.length.toInt32) := hx.length_eval hb
  have hv := Cond.le_ints hev (show (Term.int 3072).eval args s none [] s = some (.int 3072) from rfl)
  have hd : xs.length.toInt32 ≤ 3072 := by
    simpa [Cond.before, Cond.holds, hv] using hle
  have hN : xs.length ≤ 3072 := (Int32.ofNat_le_ofNat hsm (by decide)).mp (show Int32.ofNat xs.length ≤ Int32.ofNat 3072 from hd)
  exact ⟨b, xs, Cond.one_arg hc (show args[0]? = some (.ref b) from hb), hx, hN, h⟩
theorem lw_comes (l : Launch) : Comes l x (Jvm.Cond.code x code maxLocals ret :: tables_1) room_1 (fun tb e args s => Calls_1 tb e args s ∧ rest_1 tb e args s ∧ Pre_1 tb e args s)
    (fun _ _ args s o t => lw_Q args s o t) := by
  intro p e ha hc hk s m args below hf hfit hheap happ hpre
  obtain ⟨b, xs, hP⟩ := lw_pre_spec hpre.2.2 hpre.2.1
  obtain ⟨k, o, h1, h2, h3, hQ⟩ := lw_walk l b xs p e ha hc hk s m args below hf ((Spec.applies_iff_loose hf).mp happ).1 hP trivial
  exact ⟨k, o, h1, h2, h3, hQ⟩
theorem lw_frame {s t : State} {o : Outcome} {args : Array Value} (h : Framed s o t [] 600000 7302250) :
    Framed s o t (fieldLocs frame_1_writes args s ++ arrayLocs frame_1_arrays args s ++ staticLocs frame_1_statics s) 600000 7302250 := h
theorem lw_limb (L : Cond) (hL : ∀ (args : Array Value) (s t : State), L.after args s (.returned (some (.int 1))) t = true) :
    ArmFor flags0 classFile x code maxLocals ret World_1 tables_1 room_1 Calls_1 rest_1 Pre_1
      (fun tb e a s o t => postC L tb e a s o t ∧ Framed s o t (fieldLocs frame_1_writes a s ++ arrayLocs frame_1_arrays a s ++ staticLocs frame_1_statics s) 600000 7302250) := by
  intro l _ _ _ p e ha hc hk s m args below hf hfit hheap happ hpre
  obtain ⟨k, o, h1, h2, h3, rfl, hF⟩ := lw_comes l p e ha hc hk s m args below hf hfit hheap happ hpre
  exact ⟨k, _, h1, h2, h3, hL args s _, lw_frame hF⟩
theorem i_vc : Claimed_1_1 ∧ Claimed_1_2 := ⟨lw_limb limb_1_1 (fun args s t => by simp [limb_1_1, Cond.after, Cond.holds, Cond.value]), lw_limb limb_1_2 (fun args s t => Cond.after_iff.mpr (by
  first | (rw [show limb_1_2 = Cond.eq .result (.int 1) from rfl, Cond.eq_ints (x := 1) (y := 1) rfl rfl]; simp; done) | (simp [limb_1_2, Cond.value, Term.eval]; done)))⟩
