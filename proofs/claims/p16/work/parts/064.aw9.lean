/-! ===== rows of static arrays and of String constants ===== -/
section AWK
variable {G : cx_T} {R : Room} {M : mr_T} {cu su pc : Nat} {L : List (Option av_T)} {st : List av_T} {h : ah_T} {Q : Option av_T → ah_T → Prop}
theorem A_getsA {idx : Nat} {q : String × Nat × List Int} (hq : q ∈ st_L) (hl : Cond.fieldLink M.1.cls idx "PlainMusic" q.1 "[I" ∈ gw ∨ ∃ host, Cond.fieldLinkNest M.1.cls idx "PlainMusic" q.1 "[I" host ∈ lw_tbl) (hd : decode M.2.1 pc = .ok (.getstatic idx, 3)) (kk : aw G R M cu su (pc + 3) L (av_S q.2.1 :: st) h Q) : aw G R M cu su pc L st h Q := by
  intro p e s m args below meth cd H locs ls S hH hO hS hb hL hn
  have hZ := (hO.2.1 q hq).1
  have hk := kk p e s m args below meth cd H locs ls S hH hO hS hb hL (nv_c trivial hn)
  rcases hl with hl | ⟨host, hl⟩
  · exact va_gets (C := "PlainMusic") (n := q.1) (d := "[I") (ref := "PlainMusic") (v := .ref (cx_ra G q.2.1)) S.1 S.2.1 hZ hS S.2.2.2.1 (S.2.2.2.2.1 _ hl) (fun _ z => z) hd hk
  · exact va_getsN (C := "PlainMusic") (n := q.1) (d := "[I") (ref := "PlainMusic") (host := host) (v := .ref (cx_ra G q.2.1)) S.1 S.2.1 hZ hS S.2.2.2.1 ((S.2.2.2.2.2.1.2 _ hl rfl).use rfl) (fun _ z => z) hd hk
theorem A_ialoadT {q : String × Nat × List Int} {i : Int} (hd : decode M.2.1 pc = .ok (.iaload, 1)) (hq : q ∈ st_L) (hk : q.2.1 < n_RO) (h0 : 0 ≤ i) (h1 : i < q.2.2.length) (kk : ∀ x, x = q.2.2.getD i.toNat 0 → aw G R M cu su (pc + 1) L (av_I x :: st) h Q) : aw G R M cu su pc L (av_I i :: av_S q.2.1 :: st) h Q := by
  intro p e s m args below meth cd H locs ls S hH hO hS hb hL hn
  obtain ⟨-, e1, e2⟩ := hO.2.1 q hq
  exact A_ialoadS hd hk h0 (by rw [e1]; exact h1) (kk _ (e2 _ (by omega))) p e s m args below meth cd H locs ls S hH hO hS hb hL hn
theorem A_alenT {q : String × Nat × List Int} (hd : decode M.2.1 pc = .ok (.arraylength, 1)) (hq : q ∈ st_L) (hk : q.2.1 < n_RO) (hlt : q.2.2.length < 2147483648) {z : Int} (hz : (q.2.2.length : Int) = z) (kk : aw G R M cu su (pc + 1) L (av_I z :: st) h Q) : aw G R M cu su pc L (av_S q.2.1 :: st) h Q := by
  intro p e s m args below meth cd H locs ls S hH hO hS hb hL hn
  obtain ⟨-, e1, e2⟩ := hO.2.1 q hq
  exact A_alenS hd hk (by rw [e1]; exact hlt) (by rw [e1, hz]; exact kk) p e s m args below meth cd H locs ls S hH hO hS hb hL hn
theorem A_getsC {idx : Nat} (hl : Cond.fieldLink M.1.cls idx "java/lang/String" "COMPACT_STRINGS" "Z" ∈ gw) (hd : decode M.2.1 pc = .ok (.getstatic idx, 3)) (kk : aw G R M cu su (pc + 3) L (av_I 1 :: st) h Q) : aw G R M cu su pc L st h Q := by
  intro p e s m args below meth cd H locs ls S hH hO hS hb hL hn
  exact va_gets (C := "java/lang/String") (n := "COMPACT_STRINGS") (d := "Z") (ref := "java/lang/String") (v := .int 1) S.1 S.2.1 hO.2.2.1 hS S.2.2.2.1 (S.2.2.2.2.1 _ hl) (fun _ z => z) hd (kk p e s m args below meth cd H locs ls S hH hO hS hb hL (nv_c (i32b_ok (by decide)) hn))
theorem A_ldcS {idx i : Nat} {tx : String} (hc : M.1.cls = "PlainMusic$Tokens") (hi : sk_L[i]? = some (idx, tx)) (hd : decode M.2.1 pc = .ok (.ldc idx, 2)) (kk : aw G R M cu su (pc + 2) L (av_S (10 + i) :: st) h Q) : aw G R M cu su pc L st h Q := by
  intro p e s m args below meth cd H locs ls S hH hO hS hb hL hn
  exact va_ldcS (own := "PlainMusic$Tokens") (tx := tx) (q := cx_ra G (10 + i)) S.1 S.2.1 (by rw [← hc]; exact S.2.2.2.1) (hO.2.2.2.2.1 i _ hi) hd (kk p e s m args below meth cd H locs ls S hH hO hS hb hL (nv_c trivial hn))
theorem A_sval {idx i : Nat} (hi : i < 7) (hl : Cond.fieldLink M.1.cls idx "java/lang/String" "value" "[B" ∈ gw) (hd : decode M.2.1 pc = .ok (.getfield idx, 3)) (kk : aw G R M cu su (pc + 3) L (av_S (20 + i) :: st) h Q) : aw G R M cu su pc L (av_S (10 + i) :: st) h Q := by
  intro p e s m args below meth cd H locs ls S hH hO hS hb hL hn
  exact vk_getf (o := "java/lang/String") (n := "value") (d := "[B") (ref := "java/lang/String") (v := .ref (cx_ra G (20 + i))) S.1 S.2.1 (hO.2.2.2.1.1 i hi).2.2.1 hS S.2.2.2.1 (S.2.2.2.2.1 _ hl) (fun _ z => z) hd (kk p e s m args below meth cd H locs ls S hH hO hS hb hL (nv_c trivial (nv_t hn)))
theorem A_scod {idx i : Nat} (hi : i < 7) (hl : Cond.fieldLink M.1.cls idx "java/lang/String" "coder" "B" ∈ gw) (hd : decode M.2.1 pc = .ok (.getfield idx, 3)) (kk : aw G R M cu su (pc + 3) L (av_I 0 :: st) h Q) : aw G R M cu su pc L (av_S (10 + i) :: st) h Q := by
  intro p e s m args below meth cd H locs ls S hH hO hS hb hL hn
  exact vk_getf (o := "java/lang/String") (n := "coder") (d := "B") (ref := "java/lang/String") (v := .int 0) S.1 S.2.1 (hO.2.2.2.1.1 i hi).2.1 hS S.2.2.2.1 (S.2.2.2.2.1 _ hl) (fun _ z => z) hd (kk p e s m args below meth cd H locs ls S hH hO hS hb hL (nv_c (i32b_ok (by decide)) (nv_t hn)))
theorem A_slen {i : Nat} {z : Int} (hi : i < 7) (hz : ((sk_len.getD i 0 : Nat) : Int) = z) (hd : decode M.2.1 pc = .ok (.arraylength, 1)) (kk : aw G R M cu su (pc + 1) L (av_I z :: st) h Q) : aw G R M cu su pc L (av_S (20 + i) :: st) h Q := by
  intro p e s m args below meth cd H locs ls S hH hO hS hb hL hn
  subst hz
  refine va_tlen S.1 S.2.1 (hO.2.2.2.1.1 i hi).2.2.2 hS (v := Int32.ofInt ((sk_len.getD i 0 : Nat) : Int)) rfl hd (kk p e s m args below meth cd H locs ls S hH hO hS hb hL (nv_c ?_ (nv_t hn)))
  have : ∀ i, i < 7 → i32 ((sk_len.getD i 0 : Nat) : Int) := by unfold i32; decide
  exact this i hi
theorem A_sbyt {i : Nat} {j : Int} (hi : i < 7) (h0 : 0 ≤ j) (h1 : j < ((sk_len.getD i 0 : Nat) : Int)) (hd : decode M.2.1 pc = .ok (.baload, 1)) (kk : aw G R M cu su (pc + 1) L (av_I ((sk_byt.getD i []).getD j.toNat 0).toInt :: st) h Q) : aw G R M cu su pc L (av_I j :: av_S (20 + i) :: st) h Q := by
  intro p e s m args below meth cd H locs ls S hH hO hS hb hL hn
  refine va_tb S.1 S.2.1 (hO.2.2.2.1.1 i hi).2.2.2 hS (i32_in (nv_h hn) h0 h1) (v := .int ((sk_byt.getD i []).getD j.toNat 0)) (by rw [i32_cl (nv_h hn) h0]) hd ?_
  have hk := kk p e s m args below meth cd H locs ls S hH hO hS hb hL (nv_c (i32_of _) (nv_t (nv_t hn)))
  have e1 : cv G (av_I ((sk_byt.getD i []).getD j.toNat 0).toInt) = .int ((sk_byt.getD i []).getD j.toNat 0) := by
    show Value.int (Int32.ofInt _) = _
    rw [i32_rt]
  rw [List.map_cons, e1] at hk
  exact hk
theorem A_callT {Qa : Option av_T → ah_T → Prop} {idx d np i : Nat} {N : mr_T} (As : List av_T) (hi : i < 7) (hN : N.1.cls = "java/lang/String") (hd : decode M.2.1 pc = .ok (.invokevirtual idx, 3)) (hl : Cond.methodLink M.1.cls idx N.1 ∈ gw) (hm : mt_OK N np 1) (hnp : As.length = np) (hR : rm_OK R d N) (hf : cu ≤ R.cells ∧ su ≤ R.slots) (hst : st.length ≤ 4) (hM : con G d 0 0 N (av_S (10 + i) :: As) h Qa) (stk : List av_T) (hstk : stk = As.reverse ++ av_S (10 + i) :: st)
    (kk : ∀ r h', Qa r h' → aw G R M cu su (pc + 3) L (rp_R r st) h' Q) : aw G R M cu su pc L stk h Q := by
  intro p e s m args below meth cd H locs ls S hH hO hS hb hL hn
  subst hstk
  obtain ⟨c1, c2, c3, -, c4, -⟩ := hm
  obtain ⟨c5, c6⟩ := c4 rfl
  have hnA : ∀ v ∈ av_S (10 + i) :: As, nv v := nv_c trivial (fun v hv => hn v (List.mem_append_left _ (List.mem_reverse.mpr hv)))
  have hns : ∀ v ∈ st, nv v := fun v hv => hn v (List.mem_append_right _ (List.mem_cons_of_mem _ hv))
  have hMet := hM hnA
  have hrecv : ∃ cellB : Cell, H[cx_ra G (10 + i)]? = some cellB ∧ cellB.vm.isStatics = false ∧ s.vm.findClass N.1.cls = some cellB.cls := by
    rw [hN]
    have h7 := vk_recv (i := i) hO.2.2.2.1 hi hS
    exact h7
  have hp : PreV s H N.1.cls (cx_ra G (10 + i)) (va_Pc ((av_S (10 + i) :: As).map (cv G)) (Pc_B G h)) (As.map (cv G)) := ⟨Pc_blind, hrecv, fun U hU hW => Pc_pre S hH hO hS hb _ U hU hW⟩
  have hstack : (F0 m pc ls ((As.reverse ++ av_S (10 + i) :: st).map (cv G))).stack = (As.map (cv G)).reverse ++ .ref (cx_ra G (10 + i)) :: st.map (cv G) := by
    show List.map (cv G) (As.reverse ++ av_S (10 + i) :: st) = _
    rw [List.map_append, List.map_reverse]
    rfl
  exact acall (mc := 0) (ms := 0) (va_runV (b := cx_ra G (10 + i)) (C := N.1.cls) ⟨S.1, S.2.1, rfl, S.2.2.2.1, S.2.2.2.2.1⟩ hMet ⟨callB_of (ws' := gw) (index := idx) np S.2.2.2.2.1 (gi_M c1) rfl rfl rfl (S.2.2.2.2.1 _ c2) (S.2.2.2.2.1 _ hl) c3 hR, S.2.2.2.2.1 _ c5, S.2.2.2.2.1 _ c6⟩ hp rfl (by rw [List.length_map]; exact hnp) (by show ls.size = _; rw [hL.2.1, S.2.2.1]) hstack (lv_room (cat_sum G hst)) hd hf) S hO hS hb hL hns kk
theorem A_callT0 {Qa : Option av_T → ah_T → Prop} {idx d i : Nat} {N : mr_T} (hi : i < 7) (hN : N.1.cls = "java/lang/String") (hd : decode M.2.1 pc = .ok (.invokevirtual idx, 3)) (hl : Cond.methodLink M.1.cls idx N.1 ∈ gw) (hm : mt_OK N 0 1) (hR : rm_OK R d N) (hf : cu ≤ R.cells ∧ su ≤ R.slots) (hst : st.length ≤ 4) (hM : con G d 0 0 N [av_S (10 + i)] h Qa)
    (kk : ∀ r h', Qa r h' → aw G R M cu su (pc + 3) L (rp_R r st) h' Q) : aw G R M cu su pc L (av_S (10 + i) :: st) h Q := A_callT [] hi hN hd hl hm rfl hR hf hst hM _ rfl kk
theorem A_callT1 {Qa : Option av_T → ah_T → Prop} {idx d i : Nat} {N : mr_T} {a : av_T} (hi : i < 7) (hN : N.1.cls = "java/lang/String") (hd : decode M.2.1 pc = .ok (.invokevirtual idx, 3)) (hl : Cond.methodLink M.1.cls idx N.1 ∈ gw) (hm : mt_OK N 1 1) (hR : rm_OK R d N) (hf : cu ≤ R.cells ∧ su ≤ R.slots) (hst : st.length ≤ 4) (hM : con G d 0 0 N [av_S (10 + i), a] h Qa)
    (kk : ∀ r h', Qa r h' → aw G R M cu su (pc + 3) L (rp_R r st) h' Q) : aw G R M cu su pc L (a :: av_S (10 + i) :: st) h Q := A_callT [a] hi hN hd hl hm rfl hR hf hst hM _ rfl kk
theorem A_callT2 {Qa : Option av_T → ah_T → Prop} {idx d i : Nat} {N : mr_T} {a b : av_T} (hi : i < 7) (hN : N.1.cls = "java/lang/String") (hd : decode M.2.1 pc = .ok (.invokevirtual idx, 3)) (hl : Cond.methodLink M.1.cls idx N.1 ∈ gw) (hm : mt_OK N 2 1) (hR : rm_OK R d N) (hf : cu ≤ R.cells ∧ su ≤ R.slots) (hst : st.length ≤ 4) (hM : con G d 0 0 N [av_S (10 + i), a, b] h Qa)
    (kk : ∀ r h', Qa r h' → aw G R M cu su (pc + 3) L (rp_R r st) h' Q) : aw G R M cu su pc L (b :: a :: av_S (10 + i) :: st) h Q := A_callT [a, b] hi hN hd hl hm rfl hR hf hst hM _ rfl kk
end AWK
section AWK2
variable {G : cx_T} {R : Room} {M : mr_T} {cu su pc : Nat} {L : List (Option av_T)} {st : List av_T} {h : ah_T} {Q : Option av_T → ah_T → Prop}
theorem A_cI {x z : Int} (hz : x = z) (k : aw G R M cu su pc L (av_I z :: st) h Q) : aw G R M cu su pc L (av_I x :: st) h Q := hz ▸ k
theorem A_cL {x z : Int} (hz : x = z) (k : aw G R M cu su pc L (av_L z :: st) h Q) : aw G R M cu su pc L (av_L x :: st) h Q := hz ▸ k
theorem A_i2b {x : Int} (hd : decode M.2.1 pc = .ok (.i2b, 1)) (k : aw G R M cu su (pc + 1) L (av_I ((Int32.ofInt x).toInt8.toInt32).toInt :: st) h Q) : aw G R M cu su pc L (av_I x :: st) h Q := by
  intro p e s m args below meth c H locs ls S hH hO hS hb hL hn
  refine lv_i2b S.1 S.2.1 hd (i32_rt _).symm ?_
  exact k p e s m args below meth c H locs ls S hH hO hS hb hL (nv_c (i32_of _) (nv_t hn))
theorem A_bret {x : Int} (hd : decode M.2.1 pc = .ok (.ireturn, 1)) (hc : cu ≤ R.cells ∧ su ≤ R.slots) (hr : M.2.2.2 = some .byte) (h01 : i8b x = true) (hq : Q (some (av_I x)) h) : aw G R M cu su pc L [av_I x] h Q := by
  intro p e s m args below meth c H locs ls S hH hO hS hb hL hn
  refine W.widen hc.1 hc.2 ?_
  exact W.zret S.1 S.2.1 (S.2.2.2.2.2.2.1.trans hr) (by show Value.int (Int32.ofInt x).toInt8.toInt32 = Value.int (Int32.ofInt x); have h2 := i8b_v h01; have h3 : (Int32.ofInt x).toInt8 = Int8.ofInt x := (by simp); rw [h3, h2]) (fun t ht hw => ⟨⟨some (av_I x), h, rfl, (fun v hv => by cases hv; exact nv_h hn), hq, by rw [ht]; exact hH, ro_end hO hS ht hw⟩, hS.F ht⟩) hS.2.2 hd S.2.2.2.2.2.2.2.1
theorem A_l2d {x : Int} (hd : decode M.2.1 pc = .ok (.l2d, 1)) (k : aw G R M cu su (pc + 1) L (av_D (FP.l2d (Int64.ofInt x)) :: st) h Q) : aw G R M cu su pc L (av_L x :: st) h Q := by
  intro p e s m args below meth c H locs ls S hH hO hS hb hL hn
  refine lv_l2d S.1 S.2.1 hd ?_
  exact k p e s m args below meth c H locs ls S hH hO hS hb hL (nv_c trivial (nv_t hn))
theorem A_dadd {x y : UInt64} (hd : decode M.2.1 pc = .ok (.dadd, 1)) (hz : vf_n64 (FP.dadd x y)) (k : aw G R M cu su (pc + 1) L (av_D (FP.dadd x y) :: st) h Q) : aw G R M cu su pc L (av_D y :: av_D x :: st) h Q := by
  intro p e s m args below meth c H locs ls S hH hO hS hb hL hn
  exact lv_dadd S.1 S.2.1 hd hz (k p e s m args below meth c H locs ls S hH hO hS hb hL (nv_c trivial (nv_t (nv_t hn))))
theorem A_dsub {x y : UInt64} (hd : decode M.2.1 pc = .ok (.dsub, 1)) (hz : vf_n64 (FP.dsub x y)) (k : aw G R M cu su (pc + 1) L (av_D (FP.dsub x y) :: st) h Q) : aw G R M cu su pc L (av_D y :: av_D x :: st) h Q := by
  intro p e s m args below meth c H locs ls S hH hO hS hb hL hn
  exact lv_dsub S.1 S.2.1 hd hz (k p e s m args below meth c H locs ls S hH hO hS hb hL (nv_c trivial (nv_t (nv_t hn))))
theorem A_dmul {x y : UInt64} (hd : decode M.2.1 pc = .ok (.dmul, 1)) (hz : vf_n64 (FP.dmul x y)) (k : aw G R M cu su (pc + 1) L (av_D (FP.dmul x y) :: st) h Q) : aw G R M cu su pc L (av_D y :: av_D x :: st) h Q := by
  intro p e s m args below meth c H locs ls S hH hO hS hb hL hn
  exact lv_dmul S.1 S.2.1 hd hz (k p e s m args below meth c H locs ls S hH hO hS hb hL (nv_c trivial (nv_t (nv_t hn))))
theorem A_ddiv {x y : UInt64} (hd : decode M.2.1 pc = .ok (.ddiv, 1)) (hz : vf_n64 (FP.ddiv x y)) (k : aw G R M cu su (pc + 1) L (av_D (FP.ddiv x y) :: st) h Q) : aw G R M cu su pc L (av_D y :: av_D x :: st) h Q := by
  intro p e s m args below meth c H locs ls S hH hO hS hb hL hn
  exact lv_ddiv S.1 S.2.1 hd hz (k p e s m args below meth c H locs ls S hH hO hS hb hL (nv_c trivial (nv_t (nv_t hn))))
/-- a static of the JDK that is only carried -/
theorem A_getsF {idx : Nat} (hl : Cond.fieldLink M.1.cls idx "jdk/internal/util/Preconditions" "SIOOBE_FORMATTER" "Ljava/util/function/BiFunction;" ∈ gw) (hd : decode M.2.1 pc = .ok (.getstatic idx, 3)) (k1 : aw G R M cu su (pc + 3) L (av_R none :: st) h Q) (k2 : aw G R M cu su (pc + 3) L (av_S 9 :: st) h Q) : aw G R M cu su pc L st h Q := by
  intro p e s m args below meth cd H locs ls S hH hO hS hb hL hn
  rcases hO.2.2.2.2.2 with hZ | hZ
  · exact va_gets (C := "jdk/internal/util/Preconditions") (n := "SIOOBE_FORMATTER") (d := "Ljava/util/function/BiFunction;") (ref := "jdk/internal/util/Preconditions") (v := .null) S.1 S.2.1 hZ hS S.2.2.2.1 (S.2.2.2.2.1 _ hl) (fun _ z => z) hd (k1 p e s m args below meth cd H locs ls S hH hO hS hb hL (nv_c trivial hn))
  · exact va_gets (C := "jdk/internal/util/Preconditions") (n := "SIOOBE_FORMATTER") (d := "Ljava/util/function/BiFunction;") (ref := "jdk/internal/util/Preconditions") (v := .ref (cx_ra G 9)) S.1 S.2.1 hZ hS S.2.2.2.1 (S.2.2.2.2.1 _ hl) (fun _ z => z) hd (k2 p e s m args below meth cd H locs ls S hH hO hS hb hL (nv_c trivial hn))
end AWK2
/-! ===== small facts on bits ===== -/
theorem tab_r {l : List Int} {x : Int} {k : Nat} (e : x = l.getD k 0) {lo hi : Int} (h : (l.all (fun q => decide (lo ≤ q) && decide (q ≤ hi)) && (decide (lo ≤ 0) && decide (0 ≤ hi))) = true) : lo ≤ x ∧ x ≤ hi := by
  simp only [Bool.and_eq_true, List.all_eq_true, decide_eq_true_eq] at h
  subst e
  by_cases hk : k < l.length
  · rw [List.getD_eq_getElem?_getD, List.getElem?_eq_getElem hk]
    exact h.1 _ (List.getElem_mem hk)
  · rw [List.getD_eq_getElem?_getD, List.getElem?_eq_none (by omega)]
    exact h.2
theorem xor_neg (x y : Int) : (Int32.ofInt x ^^^ Int32.ofInt y).toInt < 0 ↔ ((Int32.ofInt x).toInt < 0) ≠ ((Int32.ofInt y).toInt < 0) := by
  have key : ∀ a b : BitVec 32, (a ^^^ b).toInt < 0 ↔ (a.toInt < 0) ≠ (b.toInt < 0) := by
    intro a b
    have h1 : ∀ v : BitVec 32, v.toInt < 0 ↔ v.msb = true := fun v => by
      rw [BitVec.msb_eq_toInt]; simp
    rw [h1, h1, h1, BitVec.msb_xor]
    cases a.msb <;> cases b.msb <;> simp
  exact key _ _
theorem xor_neg32 {x y z : Int} (e : z = (Int32.ofInt x ^^^ Int32.ofInt y).toInt) (hx : i32 x) (hy : i32 y) : z < 0 ↔ ¬ (x < 0 ↔ y < 0) := by
  rw [e, xor_neg, i32_tn hx, i32_tn hy]
  simp
theorem ishr0 {x z : Int} (e : z = (Int32.ofInt x >>> (Int32.ofInt 0 &&& 31)).toInt) (hx : i32 x) : z = x := by
  have h1 : (Int32.ofInt x >>> (Int32.ofInt 0 &&& 31)) = Int32.ofInt x := by
    have h2 : (Int32.ofInt 0 &&& 31 : Int32) = 0 := by decide
    rw [h2]; simp
  rw [e, h1, i32_tn hx]
theorem slen_r {x : Int} {i : Nat} (e : x = ((sk_len.getD i 0 : Nat) : Int)) (hi : i < 7) : 1 ≤ x ∧ x ≤ 13 := by
  have : ∀ i, i < 7 → 1 ≤ ((sk_len.getD i 0 : Nat) : Int) ∧ ((sk_len.getD i 0 : Nat) : Int) ≤ 13 := by decide
  rw [e]; exact this i hi
theorem sbyt_r {x : Int} {i j : Nat} (e : x = ((sk_byt.getD i []).getD j 0).toInt) : 0 ≤ x ∧ x ≤ 127 := by
  have h1 : ∀ l ∈ sk_byt, ∀ b ∈ l, 0 ≤ b.toInt ∧ b.toInt ≤ 127 := by decide
  rw [e]
  by_cases hi : i < sk_byt.length
  · rw [show sk_byt.getD i [] = sk_byt[i] from by rw [List.getD_eq_getElem?_getD, List.getElem?_eq_getElem hi]; rfl]
    by_cases hj : j < sk_byt[i].length
    · rw [List.getD_eq_getElem?_getD, List.getElem?_eq_getElem hj]
      exact h1 _ (List.getElem_mem hi) _ (List.getElem_mem hj)
    · rw [List.getD_eq_getElem?_getD, List.getElem?_eq_none (by omega)]
      decide
  · rw [show sk_byt.getD i [] = [] from by rw [List.getD_eq_getElem?_getD, List.getElem?_eq_none (by omega)]; rfl]
    simp
theorem i32_mem {z : Int} (h0 : 0 ≤ z) (h1 : z < 2147483648) : (Int32.ofInt z).toBitVec.toNat = z.toNat := by
  have h2 : (Int32.ofInt z).toBitVec = BitVec.ofInt 32 z := rfl
  rw [h2, BitVec.toNat_ofInt]
  omega
theorem ushr8 {x z : Int} (e : z = ((Int32.ofInt x).toUInt32 >>> ((Int32.ofInt 8).toUInt32 &&& Int32.toUInt32 31)).toInt32.toInt) (h0 : 0 ≤ x) (h1 : x ≤ 255) : z = 0 := by
  have key : ∀ n : Nat, n < 256 → ((Int32.ofInt (n : Int)).toUInt32 >>> ((Int32.ofInt 8).toUInt32 &&& Int32.toUInt32 31)).toInt32.toInt = 0 := by decide +kernel
  rw [e]
  have := key x.toNat (by omega)
  rwa [show ((x.toNat : Nat) : Int) = x by omega] at this
theorem i2b_r {x z : Int} (e : z = ((Int32.ofInt x).toInt8.toInt32).toInt) : -128 ≤ z ∧ z ≤ 127 := by
  rw [e, Int8.toInt_toInt32]
  have h1 := (Int32.ofInt x).toInt8.le_toInt
  have h2 := (Int32.ofInt x).toInt8.toInt_lt
  omega
theorem i2c_r {x : Int} (h0 : 0 ≤ x) (h1 : x < 65536) : ((((Int32.ofInt x).toUInt32 % 65536).toInt32).toInt) = x := by
  obtain ⟨k, rfl⟩ := Int.eq_ofNat_of_zero_le h0
  have h2 : (Int32.ofInt (k : Int)).toUInt32 = UInt32.ofNat k := by
    apply UInt32.toNat_inj.mp
    show (Int32.ofInt (k : Int)).toBitVec.toNat = _
    rw [i32_mem (by omega) (by omega)]
    rw [UInt32.toNat_ofNat']
    omega
  rw [h2]
  have h3 : (UInt32.ofNat k % 65536) = UInt32.ofNat k := by
    apply UInt32.toNat_inj.mp
    rw [UInt32.toNat_mod]
    rw [UInt32.toNat_ofNat']
    show (k % 4294967296) % 65536 = k % 4294967296
    omega
  rw [h3]
  have h4 : (UInt32.ofNat k).toInt32 = Int32.ofInt (k : Int) := by rw [← h2]; rfl
  rw [h4, i32_tn (by unfold i32; omega)]
theorem rem_p {x y z : Int} (e : z = x.tmod y) (hy : 0 < y) : (0 ≤ x ∧ 0 ≤ z ∧ z < y ∧ z = x % y) ∨ (x < 0 ∧ z = 0 ∧ x % y = 0) ∨ (x < 0 ∧ z < 0 ∧ -y < z ∧ z + y = x % y) := by
  have h0 : 0 ≤ x % y := Int.emod_nonneg _ (by omega)
  have h1 : x % y < y := Int.emod_lt_of_pos _ hy
  rcases Int.le_total 0 x with hx | hx
  · rw [Int.tmod_eq_emod_of_nonneg hx] at e
    omega
  · by_cases hx0 : x = 0
    · subst hx0; have h9 : (0 : Int) % y = 0 := Int.zero_emod y; simp at e; omega
    · have e2 : x.tmod y = x % y - if 0 ≤ x ∨ y ∣ x then 0 else y.natAbs := Int.tmod_eq_emod
      rw [e2] at e
      by_cases hd : y ∣ x
      · rw [if_pos (Or.inr hd)] at e
        have := Int.emod_eq_zero_of_dvd hd
        omega
      · rw [if_neg (by rintro (q | q); omega; exact hd q)] at e
        have h2 : x % y ≠ 0 := fun q => hd (Int.dvd_of_emod_eq_zero q)
        omega
theorem div_p {x y z : Int} (e : z = w32 (x.tdiv y)) (hx32 : i32 x) (hy : 2 ≤ y) : ((0 ≤ x ∧ z = x / y ∧ 0 ≤ z ∧ z ≤ x) ∨ (x < 0 ∧ z * y = x ∧ z = x / y ∧ x ≤ z ∧ z ≤ 0) ∨ (x < 0 ∧ z * y ≠ x ∧ z - 1 = x / y ∧ x < z ∧ z ≤ 0)) ∧ i32 (z * y) ∧ -1073741824 ≤ z ∧ z ≤ 1073741824 := by
  unfold i32 at hx32
  rcases Int.le_total 0 x with hx | hx
  · rw [Int.tdiv_eq_ediv_of_nonneg hx] at e
    have h1 : 0 ≤ x / y := Int.ediv_nonneg hx (by omega)
    have h2 : x / y ≤ x := Int.ediv_le_self _ hx
    have h3 : x / y * y ≤ x := Int.ediv_mul_le x (by omega)
    have h4 : 0 ≤ x / y * y := Int.mul_nonneg h1 (by omega)
    rw [w32_id (by unfold i32; omega)] at e
    subst e
    have h5 : x / y * 2 ≤ x / y * y := Int.mul_le_mul_of_nonneg_left hy h1
    exact ⟨Or.inl ⟨hx, rfl, h1, h2⟩, by unfold i32; omega, by omega, by omega⟩
  · by_cases hx0 : x = 0
    · subst hx0
      have e1 : z = 0 := by rw [e, Int.zero_tdiv]; decide
      subst e1
      exact ⟨Or.inl ⟨by omega, by rw [Int.zero_ediv], by omega, by omega⟩, by unfold i32; omega, by omega, by omega⟩
    · have e0 : x.tdiv y = -((-x) / y) := by
        have h5 : x = -(-x) := by omega
        have h6 : (-(-x)).tdiv y = -((-x).tdiv y) := Int.neg_tdiv _ _
        have h7 : x.tdiv y = (-(-x)).tdiv y := congrArg (fun q => Int.tdiv q y) h5
        rw [h7, h6, Int.tdiv_eq_ediv_of_nonneg (by omega)]
      have q1 : 0 ≤ (-x) / y := Int.ediv_nonneg (by omega) (by omega)
      have q2 : (-x) / y * y ≤ -x := Int.ediv_mul_le (-x) (by omega)
      have q3 : -x < ((-x) / y + 1) * y := Int.lt_ediv_add_one_mul_self (-x) (by omega)
      rw [e0] at e
      generalize hq : (-x) / y = q at *
      have q4 : q * 2 ≤ q * y := Int.mul_le_mul_of_nonneg_left hy q1
      have q5 : (q + 1) * y = q * y + y := by rw [Int.add_mul]; omega
      rw [w32_id (by unfold i32; omega)] at e
      subst e
      have q6 : -q * y = -(q * y) := Int.neg_mul q y
      refine ⟨Or.inr ?_, by unfold i32; omega, by omega, by omega⟩
      by_cases hr : q * y = -x
      · refine Or.inl ⟨by omega, by omega, ?_, by omega, by omega⟩
        have h7 : x = -q * y := by omega
        rw [h7, Int.mul_ediv_cancel _ (by omega)]
      · refine Or.inr ⟨by omega, by omega, ?_, by omega, by omega⟩
        have h8 : (-q - 1) * y = -(q * y) - y := by rw [Int.sub_mul, q6]; omega
        have h9 : -q - 1 ≤ x / y := (Int.le_ediv_iff_mul_le (by omega)).mpr (by omega)
        have h10 : x / y < -q := (Int.ediv_lt_iff_lt_mul (by omega)).mpr (by omega)
        omega
theorem and_id {x z m : Int} (k : Nat) (e : z = (Int32.ofInt x &&& Int32.ofInt m).toInt) (hm : (Int32.ofInt m).toBitVec.toNat = 2 ^ k - 1) (hk : k ≤ 30) (hm2 : m + 1 = ((2 ^ k : Nat) : Int)) (h0 : 0 ≤ x) (h1 : x ≤ m) : z = x := by
  rw [pk_and _ k hm] at e
  have h2 : 2 ^ k ≤ 2 ^ 30 := Nat.pow_le_pow_right (by decide) hk
  have h3 : (Int32.ofInt x).toBitVec.toNat = x.toNat := i32_mem h0 (by omega)
  rw [h3, Nat.mod_eq_of_lt (by omega), nI_toInt (by omega)] at e
  omega
