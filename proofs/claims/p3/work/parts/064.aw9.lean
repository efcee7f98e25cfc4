/-! ===== rows of static arrays and of String constants ===== -/
section AWK
variable {G : cx_T} {R : Room} {M : mr_T} {cu su pc : Nat} {L : List (Option av_T)} {st : List av_T} {h : ah_T} {Q : Option av_T → ah_T → Prop}
theorem A_getsA {idx : Nat} {q : String × Nat × List Int} (hq : q ∈ st_L) (hl : Cond.fieldLink M.1.cls idx "PlainMusic" q.1 "[I" ∈ gw ∨ ∃ host, Cond.fieldLinkNest M.1.cls idx "PlainMusic" q.1 "[I" host ∈ lw_tbl) (hd : decode M.2.1 pc = .ok (.getstatic idx, 3)) (kk : aw G R M cu su (pc + 3) L (av_S q.2.1 :: st) h Q) : aw G R M cu su pc L st h Q := by
  intro p e s m args below meth cd H locs ls S hH hO hS hb hL hn
  have hZ := (hO.2.1 q hq).1
  have hk := kk p e s m args below meth cd H locs ls S hH hO hS hb hL (nv_c trivial hn)
  rcases hl with hl | ⟨host, hl⟩
  · exact va_gets (C := "PlainMusic") (n := q.1) (d := "[I") (ref := "PlainMusic") (v := .ref (cx_ra G q.2.1)) S.1 S.2.1 hZ hS S.2.2.2.1 (S.2.2.2.2.1 _ hl) (fun _ z => z) hd hk
  · exact va_getsN (C := "PlainMusic") (n := q.1) (d := "[I") (ref := "PlainMusic") (host := host) (v := .ref (cx_ra G q.2.1)) S.1 S.2.1 hZ hS S.2.2.2.1 ((S.2.2.2.2.2.1.2 _ hl rfl).use rfl) (fun _ z => z) hd hk
theorem A_ialoadT {q : String × Nat × List Int} {i : Int} (hd : decode M.2.1 pc = .ok (.iaload, 1)) (hq : q ∈ st_L) (hk : q.2.1 < n_RO) (h0 : 0 ≤ i) (h1 : i < q.2.2.length) (kk : ∀ x, x = q.2.2.getD i.toNat 0 → aw G R M cu su (pc + 1) L (av_I x :: st) h Q) : aw G R M cu su pc L (av_I i :: av_S q.2.1 :: st) h Q := by
  intro p e s m args below meth cd H locs ls S hH hO hS hb hL hn
  obtain ⟨-, e1, e2⟩ := hO.2.1 q hq
  exact A_ialoadS hd hk h0 (by rw [e1]; exact h1) (kk _ (e2 _ (by omega))) p e s m args below meth cd H locs ls S hH hO hS hb hL hn
theorem A_alenT {q : String × Nat × List Int} (hd : decode M.2.1 pc = .ok (.arraylength, 1)) (hq : q ∈ st_L) (hk : q.2.1 < n_RO) (hlt : q.2.2.length < 2147483648) {z : Int} (hz : (q.2.2.length : Int) = z) (kk : aw G R M cu su (pc + 1) L (av_I z :: st) h Q) : aw G R M cu su pc L (av_S q.2.1 :: st) h Q := by
  intro p e s m args below meth cd H locs ls S hH hO hS hb hL hn
  obtain ⟨-, e1, e2⟩ := hO.2.1 q hq
  exact A_alenS hd hk (by rw [e1]; exact hlt) (by rw [e1, hz]; exact kk) p e s m args below meth cd H locs ls S hH hO hS hb hL hn
theorem A_getsC {idx : Nat} (hl : Cond.fieldLink M.1.cls idx "java/lang/String" "COMPACT_STRINGS" "Z" ∈ gw) (hd : decode M.2.1 pc = .ok (.getstatic idx, 3)) (kk : aw G R M cu su (pc + 3) L (av_I 1 :: st) h Q) : aw G R M cu su pc L st h Q := by
  intro p e s m args below meth cd H locs ls S hH hO hS hb hL hn
  exact va_gets (C := "java/lang/String") (n := "COMPACT_STRINGS") (d := "Z") (ref := "java/lang/String") (v := .int 1) S.1 S.2.1 hO.2.2.1 hS S.2.2.2.1 (S.2.2.2.2.1 _ hl) (fun _ z => z) hd (kk p e s m args below meth cd H locs ls S hH hO hS hb hL (nv_c (i32b_ok (by decide)) hn))
theorem A_ldcS {idx i : Nat} {tx : String} (hc : M.1.cls = "PlainMusic$Tokens") (hi : sk_L[i]? = some (idx, tx)) (hd : decode M.2.1 pc = .ok (.ldc idx, 2)) (kk : aw G R M cu su (pc + 2) L (av_S (10 + i) :: st) h Q) : aw G R M cu su pc L st h Q := by
  intro p e s m args below meth cd H locs ls S hH hO hS hb hL hn
  exact va_ldcS (own := "PlainMusic$Tokens") (tx := tx) (q := cx_ra G (10 + i)) S.1 S.2.1 (by rw [← hc]; exact S.2.2.2.1) (hO.2.2.2.2 i _ hi) hd (kk p e s m args below meth cd H locs ls S hH hO hS hb hL (nv_c trivial hn))
theorem A_sval {idx i : Nat} (hi : i < 7) (hl : Cond.fieldLink M.1.cls idx "java/lang/String" "value" "[B" ∈ gw) (hd : decode M.2.1 pc = .ok (.getfield idx, 3)) (kk : aw G R M cu su (pc + 3) L (av_S (20 + i) :: st) h Q) : aw G R M cu su pc L (av_S (10 + i) :: st) h Q := by
  intro p e s m args below meth cd H locs ls S hH hO hS hb hL hn
  exact vk_getf (o := "java/lang/String") (n := "value") (d := "[B") (ref := "java/lang/String") (v := .ref (cx_ra G (20 + i))) S.1 S.2.1 (hO.2.2.2.1.1 i hi).2.2.1 hS S.2.2.2.1 (S.2.2.2.2.1 _ hl) (fun _ z => z) hd (kk p e s m args below meth cd H locs ls S hH hO hS hb hL (nv_c trivial (nv_t hn)))
theorem A_scod {idx i : Nat} (hi : i < 7) (hl : Cond.fieldLink M.1.cls idx "java/lang/String" "coder" "B" ∈ gw) (hd : decode M.2.1 pc = .ok (.getfield idx, 3)) (kk : aw G R M cu su (pc + 3) L (av_I 0 :: st) h Q) : aw G R M cu su pc L (av_S (10 + i) :: st) h Q := by
  intro p e s m args below meth cd H locs ls S hH hO hS hb hL hn
  exact vk_getf (o := "java/lang/String") (n := "coder") (d := "B") (ref := "java/lang/String") (v := .int 0) S.1 S.2.1 (hO.2.2.2.1.1 i hi).2.1 hS S.2.2.2.1 (S.2.2.2.2.1 _ hl) (fun _ z => z) hd (kk p e s m args below meth cd H locs ls S hH hO hS hb hL (nv_c (i32b_ok (by decide)) (nv_t hn)))
theorem A_slen {i : Nat} {z : Int} (hi : i < 7) (hz : ((sk_len.getD i 0 : Nat) : Int) = z) (hd : decode M.2.1 pc = .ok (.arraylength, 1)) (kk : aw G R M cu su (pc + 1) L (av_I z :: st) h Q) : aw G R M cu su pc L (av_S (20 + i) :: st) h Q := by
  intro p e s m args below meth cd H locs ls S hH hO hS hb hL hn
  subst hz
  refine va_tlen S.1 S.2.1 (hO.2.2.2.1.1 i hi).2.2.2 hS (v := Int32.ofInt ((sk_len.getD i 0 : Nat) : Int)) rfl hd (kk p e s m args below meth cd H locs ls S hH hO hS hb hL (nv_c ?_ (nv_t hn)))
  have : ∀ i, i < 7 → i32 ((sk_len.getD i 0 : Nat) : Int) := by unfold i32; decide
  exact this i hi
theorem A_sbyt {i : Nat} {j : Int} (hi : i < 7) (h0 : 0 ≤ j) (h1 : j < ((sk_len.getD i 0 : Nat) : Int)) (hd : decode M.2.1 pc = .ok (.baload, 1)) (kk : aw G R M cu su (pc + 1) L (av_I ((sk_byt.getD i []).getD j.toNat 0).toInt :: st) h Q) : aw G R M cu su pc L (av_I j :: av_S (20 + i) :: st) h Q := by
  intro p e s m args below meth cd H locs ls S hH hO hS hb hL hn
  refine va_tb S.1 S.2.1 (hO.2.2.2.1.1 i hi).2.2.2 hS (i32_in (nv_h hn) h0 h1) (v := .int ((sk_byt.getD i []).getD j.toNat 0)) (by rw [i32_cl (nv_h hn) h0]) hd ?_
  have hk := kk p e s m args below meth cd H locs ls S hH hO hS hb hL (nv_c (i32_of _) (nv_t (nv_t hn)))
  have e1 : cv G (av_I ((sk_byt.getD i []).getD j.toNat 0).toInt) = .int ((sk_byt.getD i []).getD j.toNat 0) := by
    show Value.int (Int32.ofInt _) = _
    rw [i32_rt]
  rw [List.map_cons, e1] at hk
  exact hk
theorem A_callT {Qa : Option av_T → ah_T → Prop} {idx d np i : Nat} {N : mr_T} (As : List av_T) (hi : i < 7) (hN : N.1.cls = "java/lang/String") (hd : decode M.2.1 pc = .ok (.invokevirtual idx, 3)) (hl : Cond.methodLink M.1.cls idx N.1 ∈ gw) (hm : mt_OK N np 1) (hnp : As.length = np) (hR : rm_OK R d N) (hf : cu ≤ R.cells ∧ su ≤ R.slots) (hst : st.length ≤ 4) (hM : con G d 0 0 N (av_S (10 + i) :: As) h Qa) (stk : List av_T) (hstk : stk = As.reverse ++ av_S (10 + i) :: st)
    (kk : ∀ r h', Qa r h' → aw G R M cu su (pc + 3) L (rp_R r st) h' Q) : aw G R M cu su pc L stk h Q := by
  intro p e s m args below meth cd H locs ls S hH hO hS hb hL hn
  subst hstk
  obtain ⟨c1, c2, c3, -, c4, -⟩ := hm
  obtain ⟨c5, c6⟩ := c4 rfl
  have hnA : ∀ v ∈ av_S (10 + i) :: As, nv v := nv_c trivial (fun v hv => hn v (List.mem_append_left _ (List.mem_reverse.mpr hv)))
  have hns : ∀ v ∈ st, nv v := fun v hv => hn v (List.mem_append_right _ (List.mem_cons_of_mem _ hv))
  have hMet := hM hnA
  have hrecv : ∃ cellB : Cell, H[cx_ra G (10 + i)]? = some cellB ∧ cellB.vm.isStatics = false ∧ s.vm.findClass N.1.cls = some cellB.cls := by
    rw [hN]
    have h7 := vk_recv (i := i) hO.2.2.2.1 hi hS
    exact h7
  have hp : PreV s H N.1.cls (cx_ra G (10 + i)) (va_Pc ((av_S (10 + i) :: As).map (cv G)) (Pc_B G h)) (As.map (cv G)) := ⟨Pc_blind, hrecv, fun U hU hW => Pc_pre S hH hO hS hb _ U hU hW⟩
  have hstack : (F0 m pc ls ((As.reverse ++ av_S (10 + i) :: st).map (cv G))).stack = (As.map (cv G)).reverse ++ .ref (cx_ra G (10 + i)) :: st.map (cv G) := by
    show List.map (cv G) (As.reverse ++ av_S (10 + i) :: st) = _
    rw [List.map_append, List.map_reverse]
    rfl
  exact acall (mc := 0) (ms := 0) (va_runV (b := cx_ra G (10 + i)) (C := N.1.cls) ⟨S.1, S.2.1, rfl, S.2.2.2.1, S.2.2.2.2.1⟩ hMet ⟨callB_of (ws' := gw) (index := idx) np S.2.2.2.2.1 (gi_M c1) rfl rfl rfl (S.2.2.2.2.1 _ c2) (S.2.2.2.2.1 _ hl) c3 hR, S.2.2.2.2.1 _ c5, S.2.2.2.2.1 _ c6⟩ hp rfl (by rw [List.length_map]; exact hnp) (by show ls.size = _; rw [hL.2.1, S.2.2.1]) hstack (lv_room (cat_sum G hst)) hd hf) S hO hS hb hL hns kk
end AWK
