/-! long walks: shapes, references and ints behind many stores at once -/
def agr (S : List (Nat × Nat)) (h h' : ah_T) : Prop := ∀ x y, (x, y) ∉ S → h'.2.1 x y = h.2.1 x y
theorem ag_i {S : List (Nat × Nat)} {h0 h h' : ah_T} {a k : Nat} {z : Int} (e : h' = st_i h a k z) (hg : agr S h0 h) : agr ((a, k) :: S) h0 h' := by
  intro x y hxy
  rw [List.mem_cons, not_or] at hxy
  subst e
  exact (up2_o (fun q => hxy.1 (by rw [q.1, q.2]))).trans (hg x y hxy.2)
theorem ag_l {S : List (Nat × Nat)} {h0 h h' : ah_T} {a k : Nat} {z : Int} (e : h' = st_l h a k z) (hg : agr S h0 h) : agr S h0 h' := by subst e; exact hg
theorem ag_r {S : List (Nat × Nat)} {h0 h h' : ah_T} {a k : Nat} {z : Option Nat} (e : h' = st_r h a k z) (hg : agr S h0 h) : agr S h0 h' := by subst e; exact hg
theorem lh_si {h h' : ah_T} {a k : Nat} {z : Int} (e : h' = st_i h a k z) : h'.1 = h.1 := by subst e; rfl
theorem lh_sl {h h' : ah_T} {a k : Nat} {z : Int} (e : h' = st_l h a k z) : h'.1 = h.1 := by subst e; rfl
theorem lh_sr {h h' : ah_T} {a k : Nat} {z : Option Nat} (e : h' = st_r h a k z) : h'.1 = h.1 := by subst e; rfl
theorem lh_ri {h h' : ah_T} {a k : Nat} {z : Int} (e : h' = st_i h a k z) : h'.2.2.2 = h.2.2.2 := by subst e; rfl
theorem lh_rl {h h' : ah_T} {a k : Nat} {z : Int} (e : h' = st_l h a k z) : h'.2.2.2 = h.2.2.2 := by subst e; rfl
/-! ===== the heap behind both constructors; what stays ===== -/
def hp_e : ah_T := ([], fun _ _ => 0, fun _ _ => 0, fun _ _ => none)
def hp_0 : ah_T := i_MD (st_n (i_PM (st_n hp_e (11 + 4) 11) 0 1) (12 + 4) 111) 170 171
def eqr (lo hi : Nat) (h : ah_T) : Prop := h.1 = hp_0.1 ∧ ∀ a, lo ≤ a → a < hi → h.2.1 a = hp_0.2.1 a ∧ h.2.2.1 a = hp_0.2.2.1 a ∧ h.2.2.2 a = hp_0.2.2.2 a
theorem rb_I {lo hi : Nat} {h : ah_T} (hw : eqr lo hi h) {a k : Nat} (h1 : lo ≤ a) (h2 : a < hi) {v : Int} (hv : hp_0.2.1 a k = v) : h.2.1 a k = v := by rw [(hw.2 a h1 h2).1]; exact hv
theorem rb_L {lo hi : Nat} {h : ah_T} (hw : eqr lo hi h) {a k : Nat} (h1 : lo ≤ a) (h2 : a < hi) {v : Int} (hv : hp_0.2.2.1 a k = v) : h.2.2.1 a k = v := by rw [(hw.2 a h1 h2).2.1]; exact hv
theorem rb_R {lo hi : Nat} {h : ah_T} (hw : eqr lo hi h) {a k : Nat} (h1 : lo ≤ a) (h2 : a < hi) {v : Option Nat} (hv : hp_0.2.2.2 a k = v) : h.2.2.2 a k = v := by rw [(hw.2 a h1 h2).2.2]; exact hv
theorem sb_s {lo hi : Nat} {h : ah_T} (hw : eqr lo hi h) {a : Nat} {v : Option (Nat × Nat)} (hv : hp_0.1[a]? = v) : h.1[a]? = v := by rw [hw.1]; exact hv
/-- nothing from b on has changed -/
def frm (b : Nat) (h h' : ah_T) : Prop := h'.1 = h.1 ∧ ∀ a, b ≤ a → h'.2.1 a = h.2.1 a ∧ h'.2.2.1 a = h.2.2.1 a ∧ h'.2.2.2 a = h.2.2.2 a
theorem fr_0 (b : Nat) (h : ah_T) : frm b h h := ⟨rfl, fun _ _ => ⟨rfl, rfl, rfl⟩⟩
theorem fr_i {b a k : Nat} {z : Int} {h0 h h' : ah_T} (e : h' = st_i h a k z) (ha : a < b) (hf : frm b h0 h) : frm b h0 h' := by
  subst e
  exact ⟨hf.1, fun x hx => ⟨(up2_n (by omega)).trans (hf.2 x hx).1, (hf.2 x hx).2.1, (hf.2 x hx).2.2⟩⟩
theorem fr_l {b a k : Nat} {z : Int} {h0 h h' : ah_T} (e : h' = st_l h a k z) (ha : a < b) (hf : frm b h0 h) : frm b h0 h' := by
  subst e
  exact ⟨hf.1, fun x hx => ⟨(hf.2 x hx).1, (up2_n (by omega)).trans (hf.2 x hx).2.1, (hf.2 x hx).2.2⟩⟩
theorem fr_r {b a k : Nat} {z : Option Nat} {h0 h h' : ah_T} (e : h' = st_r h a k z) (ha : a < b) (hf : frm b h0 h) : frm b h0 h' := by
  subst e
  exact ⟨hf.1, fun x hx => ⟨(hf.2 x hx).1, (hf.2 x hx).2.1, (up2_n (by omega)).trans (hf.2 x hx).2.2⟩⟩
theorem eqr_0 (lo hi : Nat) : eqr lo hi hp_0 := ⟨rfl, fun _ _ _ => ⟨rfl, rfl, rfl⟩⟩
theorem eqr_f {b hi : Nat} {h h' : ah_T} (hf : frm b h h') (he : eqr b hi h) : eqr b hi h' := ⟨hf.1.trans he.1, fun a h1 h2 => ⟨(hf.2 a h1).1.trans (he.2 a h1 h2).1, (hf.2 a h1).2.1.trans (he.2 a h1 h2).2.1, (hf.2 a h1).2.2.trans (he.2 a h1 h2).2.2⟩⟩
theorem d_MD_keep_0 : decode prog_14_method_45_code 0 = .ok (.aload_n 0, 1) := by decide +kernel
theorem d_MD_keep_1 : decode prog_14_method_45_code 1 = .ok (.getfield 17, 3) := by decide +kernel
theorem d_MD_keep_4 : decode prog_14_method_45_code 4 = .ok (.iconst 0, 1) := by decide +kernel
theorem d_MD_keep_5 : decode prog_14_method_45_code 5 = .ok (.aload_n 0, 1) := by decide +kernel
theorem d_MD_keep_6 : decode prog_14_method_45_code 6 = .ok (.getfield 17, 3) := by decide +kernel
theorem d_MD_keep_9 : decode prog_14_method_45_code 9 = .ok (.iconst 1, 1) := by decide +kernel
theorem d_MD_keep_10 : decode prog_14_method_45_code 10 = .ok (.iaload, 1) := by decide +kernel
theorem d_MD_keep_11 : decode prog_14_method_45_code 11 = .ok (.iastore, 1) := by decide +kernel
theorem d_MD_keep_12 : decode prog_14_method_45_code 12 = .ok (.aload_n 0, 1) := by decide +kernel
theorem d_MD_keep_13 : decode prog_14_method_45_code 13 = .ok (.getfield 20, 3) := by decide +kernel
theorem d_MD_keep_16 : decode prog_14_method_45_code 16 = .ok (.iconst 0, 1) := by decide +kernel
theorem d_MD_keep_17 : decode prog_14_method_45_code 17 = .ok (.aload_n 0, 1) := by decide +kernel
theorem d_MD_keep_18 : decode prog_14_method_45_code 18 = .ok (.getfield 20, 3) := by decide +kernel
theorem d_MD_keep_21 : decode prog_14_method_45_code 21 = .ok (.iconst 1, 1) := by decide +kernel
theorem d_MD_keep_22 : decode prog_14_method_45_code 22 = .ok (.iaload, 1) := by decide +kernel
theorem d_MD_keep_23 : decode prog_14_method_45_code 23 = .ok (.iastore, 1) := by decide +kernel
theorem d_MD_keep_24 : decode prog_14_method_45_code 24 = .ok (.aload_n 0, 1) := by decide +kernel
theorem d_MD_keep_25 : decode prog_14_method_45_code 25 = .ok (.getfield 23, 3) := by decide +kernel
theorem d_MD_keep_28 : decode prog_14_method_45_code 28 = .ok (.iconst 0, 1) := by decide +kernel
theorem d_MD_keep_29 : decode prog_14_method_45_code 29 = .ok (.aload_n 0, 1) := by decide +kernel
theorem d_MD_keep_30 : decode prog_14_method_45_code 30 = .ok (.getfield 23, 3) := by decide +kernel
theorem d_MD_keep_33 : decode prog_14_method_45_code 33 = .ok (.iconst 1, 1) := by decide +kernel
theorem d_MD_keep_34 : decode prog_14_method_45_code 34 = .ok (.iaload, 1) := by decide +kernel
theorem d_MD_keep_35 : decode prog_14_method_45_code 35 = .ok (.iastore, 1) := by decide +kernel
theorem d_MD_keep_36 : decode prog_14_method_45_code 36 = .ok (.aload_n 0, 1) := by decide +kernel
theorem d_MD_keep_37 : decode prog_14_method_45_code 37 = .ok (.getfield 26, 3) := by decide +kernel
theorem d_MD_keep_40 : decode prog_14_method_45_code 40 = .ok (.iconst 0, 1) := by decide +kernel
theorem d_MD_keep_41 : decode prog_14_method_45_code 41 = .ok (.aload_n 0, 1) := by decide +kernel
theorem d_MD_keep_42 : decode prog_14_method_45_code 42 = .ok (.getfield 26, 3) := by decide +kernel
theorem d_MD_keep_45 : decode prog_14_method_45_code 45 = .ok (.iconst 1, 1) := by decide +kernel
theorem d_MD_keep_46 : decode prog_14_method_45_code 46 = .ok (.iaload, 1) := by decide +kernel
theorem d_MD_keep_47 : decode prog_14_method_45_code 47 = .ok (.iastore, 1) := by decide +kernel
theorem d_MD_keep_48 : decode prog_14_method_45_code 48 = .ok (.iconst 0, 1) := by decide +kernel
theorem d_MD_keep_49 : decode prog_14_method_45_code 49 = .ok (.istore_n 1, 1) := by decide +kernel
def m_MD_keep : mr_T := (⟨"PlainMusicModel", "keep", "()V"⟩, prog_14_method_45_code, 3, none)
theorem d_MD_keep_50 : decode prog_14_method_45_code 50 = .ok (.iload_n 1, 1) := by decide +kernel
theorem d_MD_keep_51 : decode prog_14_method_45_code 51 = .ok (.bipush 8, 2) := by decide +kernel
theorem d_MD_keep_53 : decode prog_14_method_45_code 53 = .ok (.if_icmp .ge 24, 3) := by decide +kernel
theorem d_MD_keep_77 : decode prog_14_method_45_code 77 = .ok (.aload_n 0, 1) := by decide +kernel
theorem d_MD_keep_78 : decode prog_14_method_45_code 78 = .ok (.getfield 32, 3) := by decide +kernel
theorem d_MD_keep_81 : decode prog_14_method_45_code 81 = .ok (.iconst 0, 1) := by decide +kernel
theorem d_MD_keep_82 : decode prog_14_method_45_code 82 = .ok (.aload_n 0, 1) := by decide +kernel
theorem d_MD_keep_83 : decode prog_14_method_45_code 83 = .ok (.getfield 32, 3) := by decide +kernel
theorem d_MD_keep_86 : decode prog_14_method_45_code 86 = .ok (.iconst 1, 1) := by decide +kernel
theorem d_MD_keep_87 : decode prog_14_method_45_code 87 = .ok (.iaload, 1) := by decide +kernel
theorem d_MD_keep_88 : decode prog_14_method_45_code 88 = .ok (.iastore, 1) := by decide +kernel
theorem d_MD_keep_89 : decode prog_14_method_45_code 89 = .ok (.iconst 0, 1) := by decide +kernel
theorem d_MD_keep_90 : decode prog_14_method_45_code 90 = .ok (.istore_n 1, 1) := by decide +kernel
theorem d_MD_keep_91 : decode prog_14_method_45_code 91 = .ok (.iload_n 1, 1) := by decide +kernel
theorem d_MD_keep_92 : decode prog_14_method_45_code 92 = .ok (.bipush 24, 2) := by decide +kernel
theorem d_MD_keep_94 : decode prog_14_method_45_code 94 = .ok (.if_icmp .ge 54, 3) := by decide +kernel
theorem d_MD_keep_148 : decode prog_14_method_45_code 148 = .ok (.aload_n 0, 1) := by decide +kernel
theorem d_MD_keep_149 : decode prog_14_method_45_code 149 = .ok (.getfield 44, 3) := by decide +kernel
theorem d_MD_keep_152 : decode prog_14_method_45_code 152 = .ok (.iconst 0, 1) := by decide +kernel
theorem d_MD_keep_153 : decode prog_14_method_45_code 153 = .ok (.aload_n 0, 1) := by decide +kernel
theorem d_MD_keep_154 : decode prog_14_method_45_code 154 = .ok (.getfield 44, 3) := by decide +kernel
theorem d_MD_keep_157 : decode prog_14_method_45_code 157 = .ok (.iconst 1, 1) := by decide +kernel
theorem d_MD_keep_158 : decode prog_14_method_45_code 158 = .ok (.iaload, 1) := by decide +kernel
theorem d_MD_keep_159 : decode prog_14_method_45_code 159 = .ok (.iastore, 1) := by decide +kernel
theorem d_MD_keep_160 : decode prog_14_method_45_code 160 = .ok (.iconst 0, 1) := by decide +kernel
theorem d_MD_keep_161 : decode prog_14_method_45_code 161 = .ok (.istore_n 1, 1) := by decide +kernel
theorem d_MD_keep_162 : decode prog_14_method_45_code 162 = .ok (.iload_n 1, 1) := by decide +kernel
theorem d_MD_keep_163 : decode prog_14_method_45_code 163 = .ok (.bipush 12, 2) := by decide +kernel
theorem d_MD_keep_165 : decode prog_14_method_45_code 165 = .ok (.if_icmp .ge 24, 3) := by decide +kernel
theorem d_MD_keep_189 : decode prog_14_method_45_code 189 = .ok (.aload_n 0, 1) := by decide +kernel
theorem d_MD_keep_190 : decode prog_14_method_45_code 190 = .ok (.getfield 50, 3) := by decide +kernel
theorem d_MD_keep_193 : decode prog_14_method_45_code 193 = .ok (.iconst 0, 1) := by decide +kernel
theorem d_MD_keep_194 : decode prog_14_method_45_code 194 = .ok (.aload_n 0, 1) := by decide +kernel
theorem d_MD_keep_195 : decode prog_14_method_45_code 195 = .ok (.getfield 50, 3) := by decide +kernel
theorem d_MD_keep_198 : decode prog_14_method_45_code 198 = .ok (.iconst 1, 1) := by decide +kernel
theorem d_MD_keep_199 : decode prog_14_method_45_code 199 = .ok (.iaload, 1) := by decide +kernel
theorem d_MD_keep_200 : decode prog_14_method_45_code 200 = .ok (.iastore, 1) := by decide +kernel
theorem d_MD_keep_201 : decode prog_14_method_45_code 201 = .ok (.iconst 0, 1) := by decide +kernel
theorem d_MD_keep_202 : decode prog_14_method_45_code 202 = .ok (.istore_n 1, 1) := by decide +kernel
theorem d_MD_keep_203 : decode prog_14_method_45_code 203 = .ok (.iload_n 1, 1) := by decide +kernel
theorem d_MD_keep_204 : decode prog_14_method_45_code 204 = .ok (.aload_n 0, 1) := by decide +kernel
theorem d_MD_keep_205 : decode prog_14_method_45_code 205 = .ok (.getfield 17, 3) := by decide +kernel
theorem d_MD_keep_208 : decode prog_14_method_45_code 208 = .ok (.iconst 0, 1) := by decide +kernel
theorem d_MD_keep_209 : decode prog_14_method_45_code 209 = .ok (.iaload, 1) := by decide +kernel
theorem d_MD_keep_210 : decode prog_14_method_45_code 210 = .ok (.if_icmp .ge 137, 3) := by decide +kernel
theorem d_MD_keep_347 : decode prog_14_method_45_code 347 = .ok (.return_, 1) := by decide +kernel
theorem d_MD_keep_168 : decode prog_14_method_45_code 168 = .ok (.aload_n 0, 1) := by decide +kernel
theorem d_MD_keep_169 : decode prog_14_method_45_code 169 = .ok (.getfield 47, 3) := by decide +kernel
theorem d_MD_keep_172 : decode prog_14_method_45_code 172 = .ok (.iload_n 1, 1) := by decide +kernel
theorem d_MD_keep_173 : decode prog_14_method_45_code 173 = .ok (.aload_n 0, 1) := by decide +kernel
theorem d_MD_keep_174 : decode prog_14_method_45_code 174 = .ok (.getfield 47, 3) := by decide +kernel
theorem d_MD_keep_177 : decode prog_14_method_45_code 177 = .ok (.bipush 12, 2) := by decide +kernel
theorem d_MD_keep_179 : decode prog_14_method_45_code 179 = .ok (.iload_n 1, 1) := by decide +kernel
theorem d_MD_keep_180 : decode prog_14_method_45_code 180 = .ok (.iadd, 1) := by decide +kernel
theorem d_MD_keep_181 : decode prog_14_method_45_code 181 = .ok (.iaload, 1) := by decide +kernel
theorem d_MD_keep_182 : decode prog_14_method_45_code 182 = .ok (.iastore, 1) := by decide +kernel
theorem d_MD_keep_183 : decode prog_14_method_45_code 183 = .ok (.iinc 1 1, 3) := by decide +kernel
theorem d_MD_keep_186 : decode prog_14_method_45_code 186 = .ok (.goto (-24), 3) := by decide +kernel
theorem d_MD_keep_97 : decode prog_14_method_45_code 97 = .ok (.aload_n 0, 1) := by decide +kernel
theorem d_MD_keep_98 : decode prog_14_method_45_code 98 = .ok (.getfield 35, 3) := by decide +kernel
theorem d_MD_keep_101 : decode prog_14_method_45_code 101 = .ok (.iload_n 1, 1) := by decide +kernel
theorem d_MD_keep_102 : decode prog_14_method_45_code 102 = .ok (.aload_n 0, 1) := by decide +kernel
theorem d_MD_keep_103 : decode prog_14_method_45_code 103 = .ok (.getfield 35, 3) := by decide +kernel
theorem d_MD_keep_106 : decode prog_14_method_45_code 106 = .ok (.bipush 24, 2) := by decide +kernel
theorem d_MD_keep_108 : decode prog_14_method_45_code 108 = .ok (.iload_n 1, 1) := by decide +kernel
theorem d_MD_keep_109 : decode prog_14_method_45_code 109 = .ok (.iadd, 1) := by decide +kernel
theorem d_MD_keep_110 : decode prog_14_method_45_code 110 = .ok (.iaload, 1) := by decide +kernel
theorem d_MD_keep_111 : decode prog_14_method_45_code 111 = .ok (.iastore, 1) := by decide +kernel
theorem d_MD_keep_112 : decode prog_14_method_45_code 112 = .ok (.aload_n 0, 1) := by decide +kernel
theorem d_MD_keep_113 : decode prog_14_method_45_code 113 = .ok (.getfield 38, 3) := by decide +kernel
theorem d_MD_keep_116 : decode prog_14_method_45_code 116 = .ok (.iload_n 1, 1) := by decide +kernel
theorem d_MD_keep_117 : decode prog_14_method_45_code 117 = .ok (.aload_n 0, 1) := by decide +kernel
theorem d_MD_keep_118 : decode prog_14_method_45_code 118 = .ok (.getfield 38, 3) := by decide +kernel
theorem d_MD_keep_121 : decode prog_14_method_45_code 121 = .ok (.bipush 24, 2) := by decide +kernel
theorem d_MD_keep_123 : decode prog_14_method_45_code 123 = .ok (.iload_n 1, 1) := by decide +kernel
theorem d_MD_keep_124 : decode prog_14_method_45_code 124 = .ok (.iadd, 1) := by decide +kernel
theorem d_MD_keep_125 : decode prog_14_method_45_code 125 = .ok (.iaload, 1) := by decide +kernel
theorem d_MD_keep_126 : decode prog_14_method_45_code 126 = .ok (.iastore, 1) := by decide +kernel
theorem d_MD_keep_127 : decode prog_14_method_45_code 127 = .ok (.aload_n 0, 1) := by decide +kernel
theorem d_MD_keep_128 : decode prog_14_method_45_code 128 = .ok (.getfield 41, 3) := by decide +kernel
theorem d_MD_keep_131 : decode prog_14_method_45_code 131 = .ok (.iload_n 1, 1) := by decide +kernel
theorem d_MD_keep_132 : decode prog_14_method_45_code 132 = .ok (.aload_n 0, 1) := by decide +kernel
theorem d_MD_keep_133 : decode prog_14_method_45_code 133 = .ok (.getfield 41, 3) := by decide +kernel
theorem d_MD_keep_136 : decode prog_14_method_45_code 136 = .ok (.bipush 24, 2) := by decide +kernel
theorem d_MD_keep_138 : decode prog_14_method_45_code 138 = .ok (.iload_n 1, 1) := by decide +kernel
theorem d_MD_keep_139 : decode prog_14_method_45_code 139 = .ok (.iadd, 1) := by decide +kernel
theorem d_MD_keep_140 : decode prog_14_method_45_code 140 = .ok (.iaload, 1) := by decide +kernel
theorem d_MD_keep_141 : decode prog_14_method_45_code 141 = .ok (.iastore, 1) := by decide +kernel
theorem d_MD_keep_142 : decode prog_14_method_45_code 142 = .ok (.iinc 1 1, 3) := by decide +kernel
theorem d_MD_keep_145 : decode prog_14_method_45_code 145 = .ok (.goto (-54), 3) := by decide +kernel
theorem d_MD_keep_56 : decode prog_14_method_45_code 56 = .ok (.aload_n 0, 1) := by decide +kernel
theorem d_MD_keep_57 : decode prog_14_method_45_code 57 = .ok (.getfield 29, 3) := by decide +kernel
theorem d_MD_keep_60 : decode prog_14_method_45_code 60 = .ok (.iload_n 1, 1) := by decide +kernel
theorem d_MD_keep_61 : decode prog_14_method_45_code 61 = .ok (.aload_n 0, 1) := by decide +kernel
theorem d_MD_keep_62 : decode prog_14_method_45_code 62 = .ok (.getfield 29, 3) := by decide +kernel
theorem d_MD_keep_65 : decode prog_14_method_45_code 65 = .ok (.bipush 8, 2) := by decide +kernel
theorem d_MD_keep_67 : decode prog_14_method_45_code 67 = .ok (.iload_n 1, 1) := by decide +kernel
theorem d_MD_keep_68 : decode prog_14_method_45_code 68 = .ok (.iadd, 1) := by decide +kernel
theorem d_MD_keep_69 : decode prog_14_method_45_code 69 = .ok (.iaload, 1) := by decide +kernel
theorem d_MD_keep_70 : decode prog_14_method_45_code 70 = .ok (.iastore, 1) := by decide +kernel
theorem d_MD_keep_71 : decode prog_14_method_45_code 71 = .ok (.iinc 1 1, 3) := by decide +kernel
theorem d_MD_keep_74 : decode prog_14_method_45_code 74 = .ok (.goto (-24), 3) := by decide +kernel
theorem d_PM_feed_0 : decode prog_1_method_2_code 0 = .ok (.aload_n 0, 1) := by decide +kernel
theorem d_PM_feed_1 : decode prog_1_method_2_code 1 = .ok (.getfield 13, 3) := by decide +kernel
theorem q_s_0 : hp_0.1[0]? = some (11 + 4, 11) := by decide +kernel
theorem q_I_0_1 : hp_0.2.1 0 1 = 0 := by decide +kernel
theorem d_PM_feed_4 : decode prog_1_method_2_code 4 = .ok (.bipush 20, 2) := by decide +kernel
theorem d_PM_feed_6 : decode prog_1_method_2_code 6 = .ok (.iadd, 1) := by decide +kernel
theorem d_PM_feed_7 : decode prog_1_method_2_code 7 = .ok (.sipush 2000, 3) := by decide +kernel
theorem d_PM_feed_10 : decode prog_1_method_2_code 10 = .ok (.if_icmp .le 6, 3) := by decide +kernel
theorem d_PM_feed_16 : decode prog_1_method_2_code 16 = .ok (.aload_n 0, 1) := by decide +kernel
theorem d_PM_feed_17 : decode prog_1_method_2_code 17 = .ok (.iload_n 1, 1) := by decide +kernel
theorem d_PM_feed_18 : decode prog_1_method_2_code 18 = .ok (.invokevirtual 76, 3) := by decide +kernel
theorem d_PM_putBytes_0 : decode prog_1_method_3_code 0 = .ok (.bipush 24, 2) := by decide +kernel
theorem d_PM_putBytes_2 : decode prog_1_method_3_code 2 = .ok (.istore_n 2, 1) := by decide +kernel
theorem d_PM_putBytes_3 : decode prog_1_method_3_code 3 = .ok (.iload_n 2, 1) := by decide +kernel
theorem d_PM_putBytes_4 : decode prog_1_method_3_code 4 = .ok (.ifCond .lt 47, 3) := by decide +kernel
theorem d_PM_putBytes_7 : decode prog_1_method_3_code 7 = .ok (.aload_n 0, 1) := by decide +kernel
theorem d_PM_putBytes_8 : decode prog_1_method_3_code 8 = .ok (.getfield 13, 3) := by decide +kernel
theorem d_PM_putBytes_11 : decode prog_1_method_3_code 11 = .ok (.aload_n 0, 1) := by decide +kernel
theorem d_PM_putBytes_12 : decode prog_1_method_3_code 12 = .ok (.getfield 9, 3) := by decide +kernel
theorem d_PM_putBytes_15 : decode prog_1_method_3_code 15 = .ok (.arraylength, 1) := by decide +kernel
theorem d_PM_putBytes_16 : decode prog_1_method_3_code 16 = .ok (.if_icmp .ge 29, 3) := by decide +kernel
theorem d_PM_putBytes_19 : decode prog_1_method_3_code 19 = .ok (.aload_n 0, 1) := by decide +kernel
theorem d_PM_putBytes_20 : decode prog_1_method_3_code 20 = .ok (.getfield 9, 3) := by decide +kernel
theorem d_PM_putBytes_23 : decode prog_1_method_3_code 23 = .ok (.aload_n 0, 1) := by decide +kernel
theorem d_PM_putBytes_24 : decode prog_1_method_3_code 24 = .ok (.getfield 13, 3) := by decide +kernel
theorem d_PM_putBytes_27 : decode prog_1_method_3_code 27 = .ok (.iload_n 1, 1) := by decide +kernel
theorem d_PM_putBytes_28 : decode prog_1_method_3_code 28 = .ok (.iload_n 2, 1) := by decide +kernel
theorem d_PM_putBytes_29 : decode prog_1_method_3_code 29 = .ok (.iushr, 1) := by decide +kernel
theorem d_PM_putBytes_30 : decode prog_1_method_3_code 30 = .ok (.sipush 255, 3) := by decide +kernel
theorem d_PM_putBytes_33 : decode prog_1_method_3_code 33 = .ok (.iand, 1) := by decide +kernel
theorem d_PM_putBytes_34 : decode prog_1_method_3_code 34 = .ok (.iastore, 1) := by decide +kernel
theorem d_PM_putBytes_35 : decode prog_1_method_3_code 35 = .ok (.aload_n 0, 1) := by decide +kernel
theorem d_PM_putBytes_36 : decode prog_1_method_3_code 36 = .ok (.dup, 1) := by decide +kernel
theorem d_PM_putBytes_37 : decode prog_1_method_3_code 37 = .ok (.getfield 13, 3) := by decide +kernel
theorem d_PM_putBytes_40 : decode prog_1_method_3_code 40 = .ok (.iconst 1, 1) := by decide +kernel
theorem d_PM_putBytes_41 : decode prog_1_method_3_code 41 = .ok (.iadd, 1) := by decide +kernel
theorem d_PM_putBytes_42 : decode prog_1_method_3_code 42 = .ok (.putfield 13, 3) := by decide +kernel
theorem d_PM_putBytes_45 : decode prog_1_method_3_code 45 = .ok (.iinc 2 (-8), 3) := by decide +kernel
theorem d_PM_putBytes_48 : decode prog_1_method_3_code 48 = .ok (.goto (-45), 3) := by decide +kernel
theorem d_PM_putBytes_51 : decode prog_1_method_3_code 51 = .ok (.return_, 1) := by decide +kernel
def m_PM_putBytes : mr_T := (⟨"PlainMusic", "putBytes", "(I)V"⟩, prog_1_method_3_code, 3, none)
theorem l_PM_76 : ml_OK "PlainMusic" 76 ⟨"PlainMusic", "putBytes", "(I)V"⟩ := Or.inl (gw_in 632 (by decide +kernel) (by decide +kernel))
theorem k_PM_putBytes : mt_OK m_PM_putBytes 1 1 := ⟨(gw_in 635 (by decide +kernel) (by decide +kernel)), (gw_in 134 (by decide +kernel) (by decide +kernel)), ⟨by decide +kernel, by decide +kernel, by decide +kernel⟩, fun h => absurd h (by decide), fun _ => ⟨(gw_in 634 (by decide +kernel) (by decide +kernel)), (gw_in 0 (by decide +kernel) (by decide +kernel))⟩, fun h => absurd h (by decide)⟩
theorem q_R_0_0 : hp_0.2.2.2 0 0 = some 1 := by decide +kernel
theorem q_s_1 : hp_0.1[1]? = some (0, 2000) := by decide +kernel
theorem d_PM_feed_21 : decode prog_1_method_2_code 21 = .ok (.aload_n 0, 1) := by decide +kernel
theorem d_PM_feed_22 : decode prog_1_method_2_code 22 = .ok (.iload_n 2, 1) := by decide +kernel
theorem d_PM_feed_23 : decode prog_1_method_2_code 23 = .ok (.invokevirtual 76, 3) := by decide +kernel
theorem d_PM_feed_26 : decode prog_1_method_2_code 26 = .ok (.aload_n 0, 1) := by decide +kernel
theorem d_PM_feed_27 : decode prog_1_method_2_code 27 = .ok (.iload_n 3, 1) := by decide +kernel
theorem d_PM_feed_28 : decode prog_1_method_2_code 28 = .ok (.invokevirtual 76, 3) := by decide +kernel
theorem d_PM_feed_31 : decode prog_1_method_2_code 31 = .ok (.aload_n 0, 1) := by decide +kernel
theorem d_PM_feed_32 : decode prog_1_method_2_code 32 = .ok (.iload 4, 2) := by decide +kernel
theorem d_PM_feed_34 : decode prog_1_method_2_code 34 = .ok (.invokevirtual 76, 3) := by decide +kernel
theorem d_PM_feed_37 : decode prog_1_method_2_code 37 = .ok (.aload_n 0, 1) := by decide +kernel
theorem d_PM_feed_38 : decode prog_1_method_2_code 38 = .ok (.iload 5, 2) := by decide +kernel
theorem d_PM_feed_40 : decode prog_1_method_2_code 40 = .ok (.invokevirtual 76, 3) := by decide +kernel
theorem d_PM_feed_43 : decode prog_1_method_2_code 43 = .ok (.aload_n 0, 1) := by decide +kernel
theorem d_PM_feed_44 : decode prog_1_method_2_code 44 = .ok (.getfield 13, 3) := by decide +kernel
theorem d_PM_feed_47 : decode prog_1_method_2_code 47 = .ok (.ireturn, 1) := by decide +kernel
def m_PM_feed : mr_T := (⟨"PlainMusic", "feed", "(IIIII)I"⟩, prog_1_method_2_code, 6, some .int)
theorem d_PM_cut_0 : decode prog_1_method_4_code 0 = .ok (.iload_n 1, 1) := by decide +kernel
theorem d_PM_cut_1 : decode prog_1_method_4_code 1 = .ok (.ifCond .lt 11, 3) := by decide +kernel
theorem d_PM_cut_12 : decode prog_1_method_4_code 12 = .ok (.iconst (-1), 1) := by decide +kernel
theorem d_PM_cut_13 : decode prog_1_method_4_code 13 = .ok (.ireturn, 1) := by decide +kernel
theorem d_PM_cut_4 : decode prog_1_method_4_code 4 = .ok (.iload_n 1, 1) := by decide +kernel
theorem d_PM_cut_5 : decode prog_1_method_4_code 5 = .ok (.aload_n 0, 1) := by decide +kernel
theorem d_PM_cut_6 : decode prog_1_method_4_code 6 = .ok (.getfield 13, 3) := by decide +kernel
theorem d_PM_cut_9 : decode prog_1_method_4_code 9 = .ok (.if_icmp .le 5, 3) := by decide +kernel
theorem d_PM_cut_14 : decode prog_1_method_4_code 14 = .ok (.aload_n 0, 1) := by decide +kernel
theorem d_PM_cut_15 : decode prog_1_method_4_code 15 = .ok (.dup, 1) := by decide +kernel
theorem d_PM_cut_16 : decode prog_1_method_4_code 16 = .ok (.getfield 13, 3) := by decide +kernel
theorem d_PM_cut_19 : decode prog_1_method_4_code 19 = .ok (.iload_n 1, 1) := by decide +kernel
theorem d_PM_cut_20 : decode prog_1_method_4_code 20 = .ok (.isub, 1) := by decide +kernel
theorem d_PM_cut_21 : decode prog_1_method_4_code 21 = .ok (.putfield 13, 3) := by decide +kernel
theorem d_PM_cut_24 : decode prog_1_method_4_code 24 = .ok (.aload_n 0, 1) := by decide +kernel
theorem d_PM_cut_25 : decode prog_1_method_4_code 25 = .ok (.getfield 13, 3) := by decide +kernel
theorem d_PM_cut_28 : decode prog_1_method_4_code 28 = .ok (.ireturn, 1) := by decide +kernel
def m_PM_cut : mr_T := (⟨"PlainMusic", "cut", "(I)I"⟩, prog_1_method_4_code, 2, some .int)
theorem d_PM_score_0 : decode prog_1_method_5_code 0 = .ok (.aload_n 0, 1) := by decide +kernel
theorem d_PM_score_1 : decode prog_1_method_5_code 1 = .ok (.getfield 20, 3) := by decide +kernel
theorem q_R_0_2 : hp_0.2.2.2 0 2 = some 2 := by decide +kernel
theorem d_PM_score_4 : decode prog_1_method_5_code 4 = .ok (.aload_n 0, 1) := by decide +kernel
theorem d_PM_score_5 : decode prog_1_method_5_code 5 = .ok (.getfield 9, 3) := by decide +kernel
theorem d_PM_score_8 : decode prog_1_method_5_code 8 = .ok (.aload_n 0, 1) := by decide +kernel
theorem d_PM_score_9 : decode prog_1_method_5_code 9 = .ok (.getfield 13, 3) := by decide +kernel
theorem d_PM_score_12 : decode prog_1_method_5_code 12 = .ok (.invokevirtual 80, 3) := by decide +kernel
theorem d_Reader_read_0 : decode prog_7_method_2_code 0 = .ok (.aload_n 0, 1) := by decide +kernel
theorem d_Reader_read_1 : decode prog_7_method_2_code 1 = .ok (.getfield 32, 3) := by decide +kernel
theorem d_Reader_read_4 : decode prog_7_method_2_code 4 = .ok (.invokevirtual 36, 3) := by decide +kernel
theorem d_Score_clear_0 : decode prog_8_method_2_code 0 = .ok (.aload_n 0, 1) := by decide +kernel
theorem d_Score_clear_1 : decode prog_8_method_2_code 1 = .ok (.iconst 0, 1) := by decide +kernel
theorem d_Score_clear_2 : decode prog_8_method_2_code 2 = .ok (.putfield 41, 3) := by decide +kernel
theorem f_Score_41 : fl_OK "PlainMusic$Score" 41 6 1 .int false := ⟨_, rfl, by decide, (gw_in 351 (by decide +kernel) (by decide +kernel)), rfl, rfl⟩
theorem d_Score_clear_5 : decode prog_8_method_2_code 5 = .ok (.aload_n 0, 1) := by decide +kernel
theorem d_Score_clear_6 : decode prog_8_method_2_code 6 = .ok (.iconst 4, 1) := by decide +kernel
theorem d_Score_clear_7 : decode prog_8_method_2_code 7 = .ok (.putfield 17, 3) := by decide +kernel
theorem d_Score_clear_10 : decode prog_8_method_2_code 10 = .ok (.aload_n 0, 1) := by decide +kernel
theorem d_Score_clear_11 : decode prog_8_method_2_code 11 = .ok (.iconst 4, 1) := by decide +kernel
theorem d_Score_clear_12 : decode prog_8_method_2_code 12 = .ok (.putfield 21, 3) := by decide +kernel
theorem d_Score_clear_15 : decode prog_8_method_2_code 15 = .ok (.aload_n 0, 1) := by decide +kernel
theorem d_Score_clear_16 : decode prog_8_method_2_code 16 = .ok (.iconst 0, 1) := by decide +kernel
theorem d_Score_clear_17 : decode prog_8_method_2_code 17 = .ok (.putfield 44, 3) := by decide +kernel
theorem f_Score_44 : fl_OK "PlainMusic$Score" 44 6 4 .boolean false := ⟨_, rfl, by decide, (gw_in 361 (by decide +kernel) (by decide +kernel)), rfl, rfl⟩
theorem d_Score_clear_20 : decode prog_8_method_2_code 20 = .ok (.aload_n 0, 1) := by decide +kernel
theorem d_Score_clear_21 : decode prog_8_method_2_code 21 = .ok (.iconst 0, 1) := by decide +kernel
theorem d_Score_clear_22 : decode prog_8_method_2_code 22 = .ok (.putfield 48, 3) := by decide +kernel
theorem f_Score_48 : fl_OK "PlainMusic$Score" 48 6 6 .int false := ⟨_, rfl, by decide, (gw_in 365 (by decide +kernel) (by decide +kernel)), rfl, rfl⟩
theorem d_Score_clear_25 : decode prog_8_method_2_code 25 = .ok (.aload_n 0, 1) := by decide +kernel
theorem d_Score_clear_26 : decode prog_8_method_2_code 26 = .ok (.iconst 0, 1) := by decide +kernel
theorem d_Score_clear_27 : decode prog_8_method_2_code 27 = .ok (.putfield 51, 3) := by decide +kernel
theorem f_Score_51 : fl_OK "PlainMusic$Score" 51 6 10 .int false := ⟨_, rfl, by decide, (gw_in 375 (by decide +kernel) (by decide +kernel)), rfl, rfl⟩
theorem d_Score_clear_30 : decode prog_8_method_2_code 30 = .ok (.aload_n 0, 1) := by decide +kernel
theorem d_Score_clear_31 : decode prog_8_method_2_code 31 = .ok (.iconst 0, 1) := by decide +kernel
theorem d_Score_clear_32 : decode prog_8_method_2_code 32 = .ok (.putfield 54, 3) := by decide +kernel
theorem f_Score_54 : fl_OK "PlainMusic$Score" 54 6 12 .int false := ⟨_, rfl, by decide, (gw_in 381 (by decide +kernel) (by decide +kernel)), rfl, rfl⟩
theorem d_Score_clear_35 : decode prog_8_method_2_code 35 = .ok (.return_, 1) := by decide +kernel
def m_Score_clear : mr_T := (⟨"PlainMusic$Score", "clear", "()V"⟩, prog_8_method_2_code, 1, none)
theorem l_Reader_36 : ml_OK "PlainMusic$Reader" 36 ⟨"PlainMusic$Score", "clear", "()V"⟩ := Or.inl (gw_in 648 (by decide +kernel) (by decide +kernel))
theorem k_Score_clear : mt_OK m_Score_clear 0 1 := ⟨(gw_in 651 (by decide +kernel) (by decide +kernel)), (gw_in 138 (by decide +kernel) (by decide +kernel)), ⟨by decide +kernel, by decide +kernel, by decide +kernel⟩, fun h => absurd h (by decide), fun _ => ⟨(gw_in 649 (by decide +kernel) (by decide +kernel)), (gw_in 650 (by decide +kernel) (by decide +kernel))⟩, fun h => absurd h (by decide)⟩
theorem d_Reader_read_7 : decode prog_7_method_2_code 7 = .ok (.aload_n 0, 1) := by decide +kernel
theorem d_Reader_read_8 : decode prog_7_method_2_code 8 = .ok (.iconst 0, 1) := by decide +kernel
theorem d_Reader_read_9 : decode prog_7_method_2_code 9 = .ok (.putfield 39, 3) := by decide +kernel
theorem f_Reader_39 : fl_OK "PlainMusic$Reader" 39 5 3 .int false := ⟨_, rfl, by decide, (gw_in 415 (by decide +kernel) (by decide +kernel)), rfl, rfl⟩
theorem d_Reader_read_12 : decode prog_7_method_2_code 12 = .ok (.aload_n 0, 1) := by decide +kernel
theorem d_Reader_read_13 : decode prog_7_method_2_code 13 = .ok (.iconst 0, 1) := by decide +kernel
theorem d_Reader_read_14 : decode prog_7_method_2_code 14 = .ok (.putfield 43, 3) := by decide +kernel
theorem f_Reader_43 : fl_OK "PlainMusic$Reader" 43 5 6 .int false := ⟨_, rfl, by decide, (gw_in 418 (by decide +kernel) (by decide +kernel)), rfl, rfl⟩
theorem d_Reader_read_17 : decode prog_7_method_2_code 17 = .ok (.aload_n 0, 1) := by decide +kernel
theorem d_Reader_read_18 : decode prog_7_method_2_code 18 = .ok (.getfield 12, 3) := by decide +kernel
theorem d_Reader_read_21 : decode prog_7_method_2_code 21 = .ok (.aload_n 1, 1) := by decide +kernel
theorem d_Reader_read_22 : decode prog_7_method_2_code 22 = .ok (.iload_n 2, 1) := by decide +kernel
theorem d_Reader_read_23 : decode prog_7_method_2_code 23 = .ok (.invokevirtual 46, 3) := by decide +kernel
theorem d_Tokens_cutAll_0 : decode prog_10_method_2_code 0 = .ok (.aload_n 0, 1) := by decide +kernel
theorem d_Tokens_cutAll_1 : decode prog_10_method_2_code 1 = .ok (.aload_n 1, 1) := by decide +kernel
theorem d_Tokens_cutAll_2 : decode prog_10_method_2_code 2 = .ok (.putfield 25, 3) := by decide +kernel
theorem d_Tokens_cutAll_5 : decode prog_10_method_2_code 5 = .ok (.aload_n 0, 1) := by decide +kernel
theorem d_Tokens_cutAll_6 : decode prog_10_method_2_code 6 = .ok (.iload_n 2, 1) := by decide +kernel
theorem d_Tokens_cutAll_7 : decode prog_10_method_2_code 7 = .ok (.aload_n 1, 1) := by decide +kernel
theorem d_Tokens_cutAll_8 : decode prog_10_method_2_code 8 = .ok (.arraylength, 1) := by decide +kernel
theorem d_Tokens_cutAll_9 : decode prog_10_method_2_code 9 = .ok (.sipush 2000, 3) := by decide +kernel
theorem d_Tokens_cutAll_12 : decode prog_10_method_2_code 12 = .ok (.invokestatic 28, 3) := by decide +kernel
theorem ma_min : Cond.static Lib.Math.min.name ∈ gw ∧ Cond.initialized "java/lang/Math" ∈ gw ∧ Cond.code Lib.Math.min.name Lib.Math.min.code 2 (some .int) ∈ gw := ⟨(gw_in 657 (by decide +kernel) (by decide +kernel)), (gw_in 147 (by decide +kernel) (by decide +kernel)), (gw_in 658 (by decide +kernel) (by decide +kernel))⟩
theorem lm_Tokens_28 : Cond.methodLink "PlainMusic$Tokens" 28 Lib.Math.min.name ∈ gw := (gw_in 656 (by decide +kernel) (by decide +kernel))
theorem d_Tokens_cutAll_15 : decode prog_10_method_2_code 15 = .ok (.invokestatic 28, 3) := by decide +kernel
theorem d_Tokens_cutAll_18 : decode prog_10_method_2_code 18 = .ok (.putfield 34, 3) := by decide +kernel
theorem f_Tokens_34 : fl_OK "PlainMusic$Tokens" 34 8 7 .int false := ⟨_, rfl, by decide, (gw_in 182 (by decide +kernel) (by decide +kernel)), rfl, rfl⟩
theorem d_Tokens_cutAll_21 : decode prog_10_method_2_code 21 = .ok (.aload_n 0, 1) := by decide +kernel
theorem d_Tokens_cutAll_22 : decode prog_10_method_2_code 22 = .ok (.iconst 0, 1) := by decide +kernel
theorem d_Tokens_cutAll_23 : decode prog_10_method_2_code 23 = .ok (.putfield 38, 3) := by decide +kernel
theorem f_Tokens_38 : fl_OK "PlainMusic$Tokens" 38 8 8 .int false := ⟨_, rfl, by decide, (gw_in 183 (by decide +kernel) (by decide +kernel)), rfl, rfl⟩
theorem d_Tokens_cutAll_26 : decode prog_10_method_2_code 26 = .ok (.aload_n 0, 1) := by decide +kernel
theorem d_Tokens_cutAll_27 : decode prog_10_method_2_code 27 = .ok (.iconst 0, 1) := by decide +kernel
theorem d_Tokens_cutAll_28 : decode prog_10_method_2_code 28 = .ok (.putfield 41, 3) := by decide +kernel
theorem f_Tokens_41 : fl_OK "PlainMusic$Tokens" 41 8 4 .int false := ⟨_, rfl, by decide, (gw_in 179 (by decide +kernel) (by decide +kernel)), rfl, rfl⟩
theorem d_Tokens_cutAll_31 : decode prog_10_method_2_code 31 = .ok (.iconst 1, 1) := by decide +kernel
theorem d_Tokens_cutAll_32 : decode prog_10_method_2_code 32 = .ok (.istore_n 3, 1) := by decide +kernel
theorem d_Tokens_cutAll_33 : decode prog_10_method_2_code 33 = .ok (.iconst 0, 1) := by decide +kernel
theorem d_Tokens_cutAll_34 : decode prog_10_method_2_code 34 = .ok (.istore 4, 2) := by decide +kernel
theorem d_Tokens_cutAll_36 : decode prog_10_method_2_code 36 = .ok (.iload 4, 2) := by decide +kernel
theorem d_Tokens_cutAll_38 : decode prog_10_method_2_code 38 = .ok (.sipush 2000, 3) := by decide +kernel
theorem d_Tokens_cutAll_41 : decode prog_10_method_2_code 41 = .ok (.if_icmp .gt 18, 3) := by decide +kernel
theorem d_Tokens_cutAll_44 : decode prog_10_method_2_code 44 = .ok (.iload_n 3, 1) := by decide +kernel
theorem d_Tokens_cutAll_45 : decode prog_10_method_2_code 45 = .ok (.ifCond .eq 14, 3) := by decide +kernel
theorem d_Tokens_cutAll_48 : decode prog_10_method_2_code 48 = .ok (.aload_n 0, 1) := by decide +kernel
theorem d_Tokens_cutAll_49 : decode prog_10_method_2_code 49 = .ok (.invokevirtual 44, 3) := by decide +kernel
theorem d_Tokens_cutOne_0 : decode prog_10_method_4_code 0 = .ok (.aload_n 0, 1) := by decide +kernel
theorem d_Tokens_cutOne_1 : decode prog_10_method_4_code 1 = .ok (.invokevirtual 67, 3) := by decide +kernel
theorem d_Tokens_skipBlanks_0 : decode prog_10_method_6_code 0 = .ok (.iconst 0, 1) := by decide +kernel
theorem d_Tokens_skipBlanks_1 : decode prog_10_method_6_code 1 = .ok (.istore_n 1, 1) := by decide +kernel
theorem d_Tokens_skipBlanks_2 : decode prog_10_method_6_code 2 = .ok (.aload_n 0, 1) := by decide +kernel
theorem d_Tokens_skipBlanks_3 : decode prog_10_method_6_code 3 = .ok (.getfield 38, 3) := by decide +kernel
theorem d_Tokens_skipBlanks_6 : decode prog_10_method_6_code 6 = .ok (.aload_n 0, 1) := by decide +kernel
theorem d_Tokens_skipBlanks_7 : decode prog_10_method_6_code 7 = .ok (.getfield 34, 3) := by decide +kernel
theorem d_Tokens_skipBlanks_10 : decode prog_10_method_6_code 10 = .ok (.if_icmp .ge 70, 3) := by decide +kernel
theorem d_Tokens_skipBlanks_80 : decode prog_10_method_6_code 80 = .ok (.return_, 1) := by decide +kernel
def m_Tokens_skipBlanks : mr_T := (⟨"PlainMusic$Tokens", "skipBlanks", "()V"⟩, prog_10_method_6_code, 3, none)
theorem l_Tokens_67 : ml_OK "PlainMusic$Tokens" 67 ⟨"PlainMusic$Tokens", "skipBlanks", "()V"⟩ := Or.inl (gw_in 663 (by decide +kernel) (by decide +kernel))
theorem k_Tokens_skipBlanks : mt_OK m_Tokens_skipBlanks 0 1 := ⟨(gw_in 666 (by decide +kernel) (by decide +kernel)), (gw_in 136 (by decide +kernel) (by decide +kernel)), ⟨by decide +kernel, by decide +kernel, by decide +kernel⟩, fun h => absurd h (by decide), fun _ => ⟨(gw_in 665 (by decide +kernel) (by decide +kernel)), (gw_in 2 (by decide +kernel) (by decide +kernel))⟩, fun h => absurd h (by decide)⟩
theorem d_Tokens_cutOne_4 : decode prog_10_method_4_code 4 = .ok (.aload_n 0, 1) := by decide +kernel
theorem d_Tokens_cutOne_5 : decode prog_10_method_4_code 5 = .ok (.getfield 38, 3) := by decide +kernel
theorem d_Tokens_cutOne_8 : decode prog_10_method_4_code 8 = .ok (.istore_n 1, 1) := by decide +kernel
theorem d_Tokens_cutOne_9 : decode prog_10_method_4_code 9 = .ok (.aload_n 0, 1) := by decide +kernel
theorem d_Tokens_cutOne_10 : decode prog_10_method_4_code 10 = .ok (.aload_n 0, 1) := by decide +kernel
theorem d_Tokens_cutOne_11 : decode prog_10_method_4_code 11 = .ok (.getfield 38, 3) := by decide +kernel
theorem d_Tokens_cutOne_14 : decode prog_10_method_4_code 14 = .ok (.invokevirtual 70, 3) := by decide +kernel
theorem d_Tokens_byteAt_0 : decode prog_10_method_5_code 0 = .ok (.iload_n 1, 1) := by decide +kernel
theorem d_Tokens_byteAt_1 : decode prog_10_method_5_code 1 = .ok (.ifCond .lt 29, 3) := by decide +kernel
theorem d_Tokens_byteAt_4 : decode prog_10_method_5_code 4 = .ok (.iload_n 1, 1) := by decide +kernel
theorem d_Tokens_byteAt_5 : decode prog_10_method_5_code 5 = .ok (.aload_n 0, 1) := by decide +kernel
theorem d_Tokens_byteAt_6 : decode prog_10_method_5_code 6 = .ok (.getfield 34, 3) := by decide +kernel
theorem d_Tokens_byteAt_9 : decode prog_10_method_5_code 9 = .ok (.if_icmp .ge 21, 3) := by decide +kernel
theorem d_Tokens_byteAt_30 : decode prog_10_method_5_code 30 = .ok (.iconst (-1), 1) := by decide +kernel
theorem d_Tokens_byteAt_31 : decode prog_10_method_5_code 31 = .ok (.ireturn, 1) := by decide +kernel
def m_Tokens_byteAt : mr_T := (⟨"PlainMusic$Tokens", "byteAt", "(I)I"⟩, prog_10_method_5_code, 2, some .int)
theorem l_Tokens_70 : ml_OK "PlainMusic$Tokens" 70 ⟨"PlainMusic$Tokens", "byteAt", "(I)I"⟩ := Or.inl (gw_in 667 (by decide +kernel) (by decide +kernel))
theorem k_Tokens_byteAt : mt_OK m_Tokens_byteAt 1 1 := ⟨(gw_in 670 (by decide +kernel) (by decide +kernel)), (gw_in 136 (by decide +kernel) (by decide +kernel)), ⟨by decide +kernel, by decide +kernel, by decide +kernel⟩, fun h => absurd h (by decide), fun _ => ⟨(gw_in 669 (by decide +kernel) (by decide +kernel)), (gw_in 3 (by decide +kernel) (by decide +kernel))⟩, fun h => absurd h (by decide)⟩
theorem d_Tokens_cutOne_17 : decode prog_10_method_4_code 17 = .ok (.istore_n 2, 1) := by decide +kernel
theorem d_Tokens_cutOne_18 : decode prog_10_method_4_code 18 = .ok (.iload_n 2, 1) := by decide +kernel
theorem d_Tokens_cutOne_19 : decode prog_10_method_4_code 19 = .ok (.ifCond .ge 13, 3) := by decide +kernel
theorem d_Tokens_cutOne_22 : decode prog_10_method_4_code 22 = .ok (.aload_n 0, 1) := by decide +kernel
theorem d_Tokens_cutOne_23 : decode prog_10_method_4_code 23 = .ok (.sipush 256, 3) := by decide +kernel
theorem d_Tokens_cutOne_26 : decode prog_10_method_4_code 26 = .ok (.putfield 54, 3) := by decide +kernel
theorem f_Tokens_54 : fl_OK "PlainMusic$Tokens" 54 8 9 .int false := ⟨_, rfl, by decide, (gw_in 185 (by decide +kernel) (by decide +kernel)), rfl, rfl⟩
theorem d_Tokens_cutOne_29 : decode prog_10_method_4_code 29 = .ok (.goto 82, 3) := by decide +kernel
theorem d_Tokens_cutOne_111 : decode prog_10_method_4_code 111 = .ok (.aload_n 0, 1) := by decide +kernel
theorem d_Tokens_cutOne_112 : decode prog_10_method_4_code 112 = .ok (.getfield 41, 3) := by decide +kernel
theorem d_Tokens_cutOne_115 : decode prog_10_method_4_code 115 = .ok (.aload_n 0, 1) := by decide +kernel
theorem d_Tokens_cutOne_116 : decode prog_10_method_4_code 116 = .ok (.getfield 9, 3) := by decide +kernel
theorem d_Tokens_cutOne_119 : decode prog_10_method_4_code 119 = .ok (.arraylength, 1) := by decide +kernel
theorem d_Tokens_cutOne_120 : decode prog_10_method_4_code 120 = .ok (.if_icmp .ge 62, 3) := by decide +kernel
theorem d_Tokens_cutOne_123 : decode prog_10_method_4_code 123 = .ok (.aload_n 0, 1) := by decide +kernel
theorem d_Tokens_cutOne_124 : decode prog_10_method_4_code 124 = .ok (.getfield 9, 3) := by decide +kernel
theorem d_Tokens_cutOne_127 : decode prog_10_method_4_code 127 = .ok (.aload_n 0, 1) := by decide +kernel
theorem d_Tokens_cutOne_128 : decode prog_10_method_4_code 128 = .ok (.getfield 41, 3) := by decide +kernel
theorem d_Tokens_cutOne_131 : decode prog_10_method_4_code 131 = .ok (.aload_n 0, 1) := by decide +kernel
theorem d_Tokens_cutOne_132 : decode prog_10_method_4_code 132 = .ok (.getfield 54, 3) := by decide +kernel
theorem d_Tokens_cutOne_135 : decode prog_10_method_4_code 135 = .ok (.iastore, 1) := by decide +kernel
theorem d_Tokens_cutOne_136 : decode prog_10_method_4_code 136 = .ok (.aload_n 0, 1) := by decide +kernel
theorem d_Tokens_cutOne_137 : decode prog_10_method_4_code 137 = .ok (.getfield 15, 3) := by decide +kernel
theorem d_Tokens_cutOne_140 : decode prog_10_method_4_code 140 = .ok (.aload_n 0, 1) := by decide +kernel
theorem d_Tokens_cutOne_141 : decode prog_10_method_4_code 141 = .ok (.getfield 41, 3) := by decide +kernel
theorem d_Tokens_cutOne_144 : decode prog_10_method_4_code 144 = .ok (.iload_n 1, 1) := by decide +kernel
theorem d_Tokens_cutOne_145 : decode prog_10_method_4_code 145 = .ok (.iastore, 1) := by decide +kernel
theorem d_Tokens_cutOne_146 : decode prog_10_method_4_code 146 = .ok (.aload_n 0, 1) := by decide +kernel
theorem d_Tokens_cutOne_147 : decode prog_10_method_4_code 147 = .ok (.getfield 18, 3) := by decide +kernel
theorem d_Tokens_cutOne_150 : decode prog_10_method_4_code 150 = .ok (.aload_n 0, 1) := by decide +kernel
theorem d_Tokens_cutOne_151 : decode prog_10_method_4_code 151 = .ok (.getfield 41, 3) := by decide +kernel
theorem d_Tokens_cutOne_154 : decode prog_10_method_4_code 154 = .ok (.aload_n 0, 1) := by decide +kernel
theorem d_Tokens_cutOne_155 : decode prog_10_method_4_code 155 = .ok (.getfield 60, 3) := by decide +kernel
theorem f_Tokens_60 : fl_OK "PlainMusic$Tokens" 60 8 11 .long false := ⟨_, rfl, by decide, (gw_in 188 (by decide +kernel) (by decide +kernel)), rfl, rfl⟩
theorem d_Tokens_cutOne_158 : decode prog_10_method_4_code 158 = .ok (.lastore, 1) := by decide +kernel
theorem d_Tokens_cutOne_159 : decode prog_10_method_4_code 159 = .ok (.aload_n 0, 1) := by decide +kernel
theorem d_Tokens_cutOne_160 : decode prog_10_method_4_code 160 = .ok (.getfield 22, 3) := by decide +kernel
theorem d_Tokens_cutOne_163 : decode prog_10_method_4_code 163 = .ok (.aload_n 0, 1) := by decide +kernel
theorem d_Tokens_cutOne_164 : decode prog_10_method_4_code 164 = .ok (.getfield 41, 3) := by decide +kernel
theorem d_Tokens_cutOne_167 : decode prog_10_method_4_code 167 = .ok (.aload_n 0, 1) := by decide +kernel
theorem d_Tokens_cutOne_168 : decode prog_10_method_4_code 168 = .ok (.getfield 64, 3) := by decide +kernel
theorem f_Tokens_64 : fl_OK "PlainMusic$Tokens" 64 8 12 .int false := ⟨_, rfl, by decide, (gw_in 190 (by decide +kernel) (by decide +kernel)), rfl, rfl⟩
theorem d_Tokens_cutOne_171 : decode prog_10_method_4_code 171 = .ok (.iastore, 1) := by decide +kernel
theorem d_Tokens_cutOne_172 : decode prog_10_method_4_code 172 = .ok (.aload_n 0, 1) := by decide +kernel
theorem d_Tokens_cutOne_173 : decode prog_10_method_4_code 173 = .ok (.dup, 1) := by decide +kernel
theorem d_Tokens_cutOne_174 : decode prog_10_method_4_code 174 = .ok (.getfield 41, 3) := by decide +kernel
theorem d_Tokens_cutOne_177 : decode prog_10_method_4_code 177 = .ok (.iconst 1, 1) := by decide +kernel
theorem d_Tokens_cutOne_178 : decode prog_10_method_4_code 178 = .ok (.iadd, 1) := by decide +kernel
theorem d_Tokens_cutOne_179 : decode prog_10_method_4_code 179 = .ok (.putfield 41, 3) := by decide +kernel
theorem d_Tokens_cutOne_182 : decode prog_10_method_4_code 182 = .ok (.aload_n 0, 1) := by decide +kernel
theorem d_Tokens_cutOne_183 : decode prog_10_method_4_code 183 = .ok (.getfield 54, 3) := by decide +kernel
theorem d_Tokens_cutOne_186 : decode prog_10_method_4_code 186 = .ok (.sipush 256, 3) := by decide +kernel
theorem d_Tokens_cutOne_189 : decode prog_10_method_4_code 189 = .ok (.if_icmp .eq 17, 3) := by decide +kernel
theorem d_Tokens_cutOne_206 : decode prog_10_method_4_code 206 = .ok (.iconst 0, 1) := by decide +kernel
theorem d_Tokens_cutOne_207 : decode prog_10_method_4_code 207 = .ok (.ireturn, 1) := by decide +kernel
def m_Tokens_cutOne : mr_T := (⟨"PlainMusic$Tokens", "cutOne", "()Z"⟩, prog_10_method_4_code, 3, some .boolean)
theorem l_Tokens_44 : ml_OK "PlainMusic$Tokens" 44 ⟨"PlainMusic$Tokens", "cutOne", "()Z"⟩ := Or.inl (gw_in 659 (by decide +kernel) (by decide +kernel))
theorem k_Tokens_cutOne : mt_OK m_Tokens_cutOne 0 1 := ⟨(gw_in 662 (by decide +kernel) (by decide +kernel)), (gw_in 136 (by decide +kernel) (by decide +kernel)), ⟨by decide +kernel, by decide +kernel, by decide +kernel⟩, fun h => absurd h (by decide), fun _ => ⟨(gw_in 661 (by decide +kernel) (by decide +kernel)), (gw_in 1 (by decide +kernel) (by decide +kernel))⟩, fun h => absurd h (by decide)⟩
theorem d_Tokens_cutAll_52 : decode prog_10_method_2_code 52 = .ok (.istore_n 3, 1) := by decide +kernel
theorem d_Tokens_cutAll_53 : decode prog_10_method_2_code 53 = .ok (.iinc 4 1, 3) := by decide +kernel
theorem d_Tokens_cutAll_56 : decode prog_10_method_2_code 56 = .ok (.goto (-20), 3) := by decide +kernel
theorem d_Tokens_cutAll_59 : decode prog_10_method_2_code 59 = .ok (.aload_n 0, 1) := by decide +kernel
theorem d_Tokens_cutAll_60 : decode prog_10_method_2_code 60 = .ok (.iconst (-1), 1) := by decide +kernel
theorem d_Tokens_cutAll_61 : decode prog_10_method_2_code 61 = .ok (.putfield 48, 3) := by decide +kernel
theorem f_Tokens_48 : fl_OK "PlainMusic$Tokens" 48 8 5 .int false := ⟨_, rfl, by decide, (gw_in 180 (by decide +kernel) (by decide +kernel)), rfl, rfl⟩
theorem d_Tokens_cutAll_64 : decode prog_10_method_2_code 64 = .ok (.aload_n 0, 1) := by decide +kernel
theorem d_Tokens_cutAll_65 : decode prog_10_method_2_code 65 = .ok (.invokevirtual 51, 3) := by decide +kernel
theorem d_Tokens_next_0 : decode prog_10_method_3_code 0 = .ok (.aload_n 0, 1) := by decide +kernel
theorem d_Tokens_next_1 : decode prog_10_method_3_code 1 = .ok (.getfield 48, 3) := by decide +kernel
theorem d_Tokens_next_4 : decode prog_10_method_3_code 4 = .ok (.iconst 1, 1) := by decide +kernel
theorem d_Tokens_next_5 : decode prog_10_method_3_code 5 = .ok (.iadd, 1) := by decide +kernel
theorem d_Tokens_next_6 : decode prog_10_method_3_code 6 = .ok (.aload_n 0, 1) := by decide +kernel
theorem d_Tokens_next_7 : decode prog_10_method_3_code 7 = .ok (.getfield 41, 3) := by decide +kernel
theorem d_Tokens_next_10 : decode prog_10_method_3_code 10 = .ok (.if_icmp .ge 79, 3) := by decide +kernel
theorem d_Tokens_next_13 : decode prog_10_method_3_code 13 = .ok (.aload_n 0, 1) := by decide +kernel
theorem d_Tokens_next_14 : decode prog_10_method_3_code 14 = .ok (.getfield 48, 3) := by decide +kernel
theorem d_Tokens_next_17 : decode prog_10_method_3_code 17 = .ok (.iconst 1, 1) := by decide +kernel
theorem d_Tokens_next_18 : decode prog_10_method_3_code 18 = .ok (.iadd, 1) := by decide +kernel
theorem d_Tokens_next_19 : decode prog_10_method_3_code 19 = .ok (.aload_n 0, 1) := by decide +kernel
theorem d_Tokens_next_20 : decode prog_10_method_3_code 20 = .ok (.getfield 9, 3) := by decide +kernel
theorem d_Tokens_next_23 : decode prog_10_method_3_code 23 = .ok (.arraylength, 1) := by decide +kernel
theorem d_Tokens_next_24 : decode prog_10_method_3_code 24 = .ok (.if_icmp .ge 65, 3) := by decide +kernel
theorem d_Tokens_next_27 : decode prog_10_method_3_code 27 = .ok (.aload_n 0, 1) := by decide +kernel
theorem d_Tokens_next_28 : decode prog_10_method_3_code 28 = .ok (.dup, 1) := by decide +kernel
theorem d_Tokens_next_29 : decode prog_10_method_3_code 29 = .ok (.getfield 48, 3) := by decide +kernel
theorem d_Tokens_next_32 : decode prog_10_method_3_code 32 = .ok (.iconst 1, 1) := by decide +kernel
theorem d_Tokens_next_33 : decode prog_10_method_3_code 33 = .ok (.iadd, 1) := by decide +kernel
theorem d_Tokens_next_34 : decode prog_10_method_3_code 34 = .ok (.putfield 48, 3) := by decide +kernel
theorem d_Tokens_next_37 : decode prog_10_method_3_code 37 = .ok (.aload_n 0, 1) := by decide +kernel
theorem d_Tokens_next_38 : decode prog_10_method_3_code 38 = .ok (.aload_n 0, 1) := by decide +kernel
theorem d_Tokens_next_39 : decode prog_10_method_3_code 39 = .ok (.getfield 9, 3) := by decide +kernel
theorem d_Tokens_next_42 : decode prog_10_method_3_code 42 = .ok (.aload_n 0, 1) := by decide +kernel
theorem d_Tokens_next_43 : decode prog_10_method_3_code 43 = .ok (.getfield 48, 3) := by decide +kernel
theorem d_Tokens_next_46 : decode prog_10_method_3_code 46 = .ok (.iaload, 1) := by decide +kernel
theorem d_Tokens_next_47 : decode prog_10_method_3_code 47 = .ok (.putfield 54, 3) := by decide +kernel
theorem d_Tokens_next_50 : decode prog_10_method_3_code 50 = .ok (.aload_n 0, 1) := by decide +kernel
theorem d_Tokens_next_51 : decode prog_10_method_3_code 51 = .ok (.aload_n 0, 1) := by decide +kernel
theorem d_Tokens_next_52 : decode prog_10_method_3_code 52 = .ok (.getfield 15, 3) := by decide +kernel
theorem d_Tokens_next_55 : decode prog_10_method_3_code 55 = .ok (.aload_n 0, 1) := by decide +kernel
theorem d_Tokens_next_56 : decode prog_10_method_3_code 56 = .ok (.getfield 48, 3) := by decide +kernel
theorem d_Tokens_next_59 : decode prog_10_method_3_code 59 = .ok (.iaload, 1) := by decide +kernel
theorem d_Tokens_next_60 : decode prog_10_method_3_code 60 = .ok (.putfield 57, 3) := by decide +kernel
theorem f_Tokens_57 : fl_OK "PlainMusic$Tokens" 57 8 10 .int false := ⟨_, rfl, by decide, (gw_in 186 (by decide +kernel) (by decide +kernel)), rfl, rfl⟩
theorem d_Tokens_next_63 : decode prog_10_method_3_code 63 = .ok (.aload_n 0, 1) := by decide +kernel
theorem d_Tokens_next_64 : decode prog_10_method_3_code 64 = .ok (.aload_n 0, 1) := by decide +kernel
theorem d_Tokens_next_65 : decode prog_10_method_3_code 65 = .ok (.getfield 18, 3) := by decide +kernel
theorem d_Tokens_next_68 : decode prog_10_method_3_code 68 = .ok (.aload_n 0, 1) := by decide +kernel
theorem d_Tokens_next_69 : decode prog_10_method_3_code 69 = .ok (.getfield 48, 3) := by decide +kernel
theorem d_Tokens_next_72 : decode prog_10_method_3_code 72 = .ok (.laload, 1) := by decide +kernel
theorem d_Tokens_next_73 : decode prog_10_method_3_code 73 = .ok (.putfield 60, 3) := by decide +kernel
theorem d_Tokens_next_76 : decode prog_10_method_3_code 76 = .ok (.aload_n 0, 1) := by decide +kernel
theorem d_Tokens_next_77 : decode prog_10_method_3_code 77 = .ok (.aload_n 0, 1) := by decide +kernel
theorem d_Tokens_next_78 : decode prog_10_method_3_code 78 = .ok (.getfield 22, 3) := by decide +kernel
theorem d_Tokens_next_81 : decode prog_10_method_3_code 81 = .ok (.aload_n 0, 1) := by decide +kernel
theorem d_Tokens_next_82 : decode prog_10_method_3_code 82 = .ok (.getfield 48, 3) := by decide +kernel
theorem d_Tokens_next_85 : decode prog_10_method_3_code 85 = .ok (.iaload, 1) := by decide +kernel
theorem d_Tokens_next_86 : decode prog_10_method_3_code 86 = .ok (.putfield 64, 3) := by decide +kernel
theorem d_Tokens_next_89 : decode prog_10_method_3_code 89 = .ok (.return_, 1) := by decide +kernel
def m_Tokens_next : mr_T := (⟨"PlainMusic$Tokens", "next", "()V"⟩, prog_10_method_3_code, 1, none)
theorem l_Tokens_51 : ml_OK "PlainMusic$Tokens" 51 ⟨"PlainMusic$Tokens", "next", "()V"⟩ := Or.inl (gw_in 812 (by decide +kernel) (by decide +kernel))
theorem k_Tokens_next : mt_OK m_Tokens_next 0 1 := ⟨(gw_in 815 (by decide +kernel) (by decide +kernel)), (gw_in 136 (by decide +kernel) (by decide +kernel)), ⟨by decide +kernel, by decide +kernel, by decide +kernel⟩, fun h => absurd h (by decide), fun _ => ⟨(gw_in 813 (by decide +kernel) (by decide +kernel)), (gw_in 814 (by decide +kernel) (by decide +kernel))⟩, fun h => absurd h (by decide)⟩
theorem d_Tokens_cutAll_68 : decode prog_10_method_2_code 68 = .ok (.return_, 1) := by decide +kernel
def m_Tokens_cutAll : mr_T := (⟨"PlainMusic$Tokens", "cutAll", "([II)V"⟩, prog_10_method_2_code, 5, none)
theorem l_Reader_46 : ml_OK "PlainMusic$Reader" 46 ⟨"PlainMusic$Tokens", "cutAll", "([II)V"⟩ := Or.inl (gw_in 652 (by decide +kernel) (by decide +kernel))
theorem k_Tokens_cutAll : mt_OK m_Tokens_cutAll 2 1 := ⟨(gw_in 655 (by decide +kernel) (by decide +kernel)), (gw_in 136 (by decide +kernel) (by decide +kernel)), ⟨by decide +kernel, by decide +kernel, by decide +kernel⟩, fun h => absurd h (by decide), fun _ => ⟨(gw_in 653 (by decide +kernel) (by decide +kernel)), (gw_in 654 (by decide +kernel) (by decide +kernel))⟩, fun h => absurd h (by decide)⟩
theorem d_Reader_read_26 : decode prog_7_method_2_code 26 = .ok (.iconst 1, 1) := by decide +kernel
theorem d_Reader_read_27 : decode prog_7_method_2_code 27 = .ok (.istore_n 3, 1) := by decide +kernel
theorem d_Reader_read_28 : decode prog_7_method_2_code 28 = .ok (.iconst 0, 1) := by decide +kernel
theorem d_Reader_read_29 : decode prog_7_method_2_code 29 = .ok (.istore 4, 2) := by decide +kernel
theorem d_Reader_read_31 : decode prog_7_method_2_code 31 = .ok (.iload 4, 2) := by decide +kernel
theorem d_Reader_read_33 : decode prog_7_method_2_code 33 = .ok (.sipush 2000, 3) := by decide +kernel
theorem d_Reader_read_36 : decode prog_7_method_2_code 36 = .ok (.if_icmp .ge 120, 3) := by decide +kernel
theorem d_Reader_read_39 : decode prog_7_method_2_code 39 = .ok (.iload_n 3, 1) := by decide +kernel
theorem d_Reader_read_40 : decode prog_7_method_2_code 40 = .ok (.ifCond .eq 116, 3) := by decide +kernel
theorem d_Reader_read_43 : decode prog_7_method_2_code 43 = .ok (.aload_n 0, 1) := by decide +kernel
theorem d_Reader_read_44 : decode prog_7_method_2_code 44 = .ok (.getfield 12, 3) := by decide +kernel
theorem d_Reader_read_47 : decode prog_7_method_2_code 47 = .ok (.getfield 50, 3) := by decide +kernel
theorem f_Reader_50 : fl_OK "PlainMusic$Reader" 50 8 9 .int false := ⟨_, rfl, by decide, (gw_in 184 (by decide +kernel) (by decide +kernel)), rfl, rfl⟩
theorem d_Reader_read_50 : decode prog_7_method_2_code 50 = .ok (.tableswitch 74 261 265 #[34, 42, 50, 58, 66], 34) := by decide +kernel
theorem d_Reader_read_124 : decode prog_7_method_2_code 124 = .ok (.aload_n 0, 1) := by decide +kernel
theorem d_Reader_read_125 : decode prog_7_method_2_code 125 = .ok (.getfield 12, 3) := by decide +kernel
theorem d_Reader_read_128 : decode prog_7_method_2_code 128 = .ok (.getfield 50, 3) := by decide +kernel
theorem d_Reader_read_131 : decode prog_7_method_2_code 131 = .ok (.sipush 256, 3) := by decide +kernel
theorem d_Reader_read_134 : decode prog_7_method_2_code 134 = .ok (.if_icmp .eq 14, 3) := by decide +kernel
theorem d_Reader_read_148 : decode prog_7_method_2_code 148 = .ok (.iconst 0, 1) := by decide +kernel
theorem d_Reader_read_149 : decode prog_7_method_2_code 149 = .ok (.istore_n 3, 1) := by decide +kernel
theorem d_Reader_read_150 : decode prog_7_method_2_code 150 = .ok (.iinc 4 1, 3) := by decide +kernel
theorem d_Reader_read_153 : decode prog_7_method_2_code 153 = .ok (.goto (-122), 3) := by decide +kernel
theorem d_Reader_read_156 : decode prog_7_method_2_code 156 = .ok (.aload_n 0, 1) := by decide +kernel
theorem d_Reader_read_157 : decode prog_7_method_2_code 157 = .ok (.getfield 43, 3) := by decide +kernel
theorem d_Reader_read_160 : decode prog_7_method_2_code 160 = .ok (.ireturn, 1) := by decide +kernel
def m_Reader_read : mr_T := (⟨"PlainMusic$Reader", "read", "([II)I"⟩, prog_7_method_2_code, 5, some .int)
theorem l_PM_80 : ml_OK "PlainMusic" 80 ⟨"PlainMusic$Reader", "read", "([II)I"⟩ := Or.inl (gw_in 644 (by decide +kernel) (by decide +kernel))
theorem k_Reader_read : mt_OK m_Reader_read 2 1 := ⟨(gw_in 647 (by decide +kernel) (by decide +kernel)), (gw_in 135 (by decide +kernel) (by decide +kernel)), ⟨by decide +kernel, by decide +kernel, by decide +kernel⟩, fun h => absurd h (by decide), fun _ => ⟨(gw_in 645 (by decide +kernel) (by decide +kernel)), (gw_in 646 (by decide +kernel) (by decide +kernel))⟩, fun h => absurd h (by decide)⟩
theorem q_s_2 : hp_0.1[2]? = some (5 + 4, 8) := by decide +kernel
theorem q_R_2_5 : hp_0.2.2.2 2 5 = some 17 := by decide +kernel
theorem q_s_17 : hp_0.1[17]? = some (6 + 4, 13) := by decide +kernel
theorem q_R_2_0 : hp_0.2.2.2 2 0 = some 3 := by decide +kernel
theorem q_s_3 : hp_0.1[3]? = some (8 + 4, 13) := by decide +kernel
theorem q_R_3_0 : hp_0.2.2.2 3 0 = some 4 := by decide +kernel
theorem q_s_4 : hp_0.1[4]? = some (0, 2001) := by decide +kernel
theorem q_R_3_1 : hp_0.2.2.2 3 1 = some 5 := by decide +kernel
theorem q_s_5 : hp_0.1[5]? = some (0, 2001) := by decide +kernel
theorem q_R_3_2 : hp_0.2.2.2 3 2 = some 6 := by decide +kernel
theorem q_L_3_11 : hp_0.2.2.1 3 11 = 0 := by decide +kernel
theorem q_s_6 : hp_0.1[6]? = some (1, 2001) := by decide +kernel
theorem q_R_3_3 : hp_0.2.2.2 3 3 = some 7 := by decide +kernel
theorem q_I_3_12 : hp_0.2.1 3 12 = 0 := by decide +kernel
theorem q_s_7 : hp_0.1[7]? = some (0, 2001) := by decide +kernel
theorem d_PM_score_15 : decode prog_1_method_5_code 15 = .ok (.istore_n 1, 1) := by decide +kernel
theorem d_PM_score_16 : decode prog_1_method_5_code 16 = .ok (.aload_n 0, 1) := by decide +kernel
theorem d_PM_score_17 : decode prog_1_method_5_code 17 = .ok (.iconst 0, 1) := by decide +kernel
theorem d_PM_score_18 : decode prog_1_method_5_code 18 = .ok (.putfield 13, 3) := by decide +kernel
theorem d_PM_score_21 : decode prog_1_method_5_code 21 = .ok (.iload_n 1, 1) := by decide +kernel
theorem d_PM_score_22 : decode prog_1_method_5_code 22 = .ok (.ifCond .eq 19, 3) := by decide +kernel
theorem d_PM_score_41 : decode prog_1_method_5_code 41 = .ok (.aload_n 0, 1) := by decide +kernel
theorem d_PM_score_42 : decode prog_1_method_5_code 42 = .ok (.bipush (-2), 2) := by decide +kernel
theorem d_PM_score_44 : decode prog_1_method_5_code 44 = .ok (.putfield 31, 3) := by decide +kernel
theorem d_PM_score_47 : decode prog_1_method_5_code 47 = .ok (.aload_n 0, 1) := by decide +kernel
theorem d_PM_score_48 : decode prog_1_method_5_code 48 = .ok (.aload_n 0, 1) := by decide +kernel
theorem d_PM_score_49 : decode prog_1_method_5_code 49 = .ok (.getfield 20, 3) := by decide +kernel
theorem d_PM_score_52 : decode prog_1_method_5_code 52 = .ok (.aload_n 0, 1) := by decide +kernel
theorem d_PM_score_53 : decode prog_1_method_5_code 53 = .ok (.getfield 27, 3) := by decide +kernel
theorem q_R_0_3 : hp_0.2.2.2 0 3 = some 80 := by decide +kernel
theorem d_PM_score_56 : decode prog_1_method_5_code 56 = .ok (.invokevirtual 85, 3) := by decide +kernel
theorem d_Reader_swap_0 : decode prog_7_method_3_code 0 = .ok (.aload_n 0, 1) := by decide +kernel
theorem d_Reader_swap_1 : decode prog_7_method_3_code 1 = .ok (.getfield 32, 3) := by decide +kernel
theorem d_Reader_swap_4 : decode prog_7_method_3_code 4 = .ok (.astore_n 2, 1) := by decide +kernel
theorem d_Reader_swap_5 : decode prog_7_method_3_code 5 = .ok (.aload_n 0, 1) := by decide +kernel
theorem d_Reader_swap_6 : decode prog_7_method_3_code 6 = .ok (.aload_n 1, 1) := by decide +kernel
theorem d_Reader_swap_7 : decode prog_7_method_3_code 7 = .ok (.putfield 32, 3) := by decide +kernel
theorem d_Reader_swap_10 : decode prog_7_method_3_code 10 = .ok (.aload_n 2, 1) := by decide +kernel
theorem d_Reader_swap_11 : decode prog_7_method_3_code 11 = .ok (.areturn, 1) := by decide +kernel
def m_Reader_swap : mr_T := (⟨"PlainMusic$Reader", "swap", "(LPlainMusic$Score;)LPlainMusic$Score;"⟩, prog_7_method_3_code, 3, some (.object "PlainMusic$Score"))
theorem l_PM_85 : ml_OK "PlainMusic" 85 ⟨"PlainMusic$Reader", "swap", "(LPlainMusic$Score;)LPlainMusic$Score;"⟩ := Or.inl (gw_in 979 (by decide +kernel) (by decide +kernel))
theorem k_Reader_swap : mt_OK m_Reader_swap 1 1 := ⟨(gw_in 982 (by decide +kernel) (by decide +kernel)), (gw_in 135 (by decide +kernel) (by decide +kernel)), ⟨by decide +kernel, by decide +kernel, by decide +kernel⟩, fun h => absurd h (by decide), fun _ => ⟨(gw_in 980 (by decide +kernel) (by decide +kernel)), (gw_in 981 (by decide +kernel) (by decide +kernel))⟩, fun h => absurd h (by decide)⟩
theorem d_PM_score_59 : decode prog_1_method_5_code 59 = .ok (.putfield 27, 3) := by decide +kernel
theorem d_PM_score_62 : decode prog_1_method_5_code 62 = .ok (.aload_n 0, 1) := by decide +kernel
theorem d_PM_score_63 : decode prog_1_method_5_code 63 = .ok (.invokevirtual 89, 3) := by decide +kernel
theorem d_PM_forgetFindings_0 : decode prog_1_method_6_code 0 = .ok (.aload_n 0, 1) := by decide +kernel
theorem d_PM_forgetFindings_1 : decode prog_1_method_6_code 1 = .ok (.getfield 37, 3) := by decide +kernel
theorem d_PM_forgetFindings_4 : decode prog_1_method_6_code 4 = .ok (.invokevirtual 96, 3) := by decide +kernel
theorem d_Judge_forget_0 : decode prog_3_method_2_code 0 = .ok (.aload_n 0, 1) := by decide +kernel
theorem d_Judge_forget_1 : decode prog_3_method_2_code 1 = .ok (.iconst 0, 1) := by decide +kernel
theorem d_Judge_forget_2 : decode prog_3_method_2_code 2 = .ok (.putfield 18, 3) := by decide +kernel
theorem f_Judge_18 : fl_OK "PlainMusic$Judge" 18 1 1 .int false := ⟨_, rfl, by decide, (gw_in 447 (by decide +kernel) (by decide +kernel)), rfl, rfl⟩
theorem d_Judge_forget_5 : decode prog_3_method_2_code 5 = .ok (.return_, 1) := by decide +kernel
def m_Judge_forget : mr_T := (⟨"PlainMusic$Judge", "forget", "()V"⟩, prog_3_method_2_code, 1, none)
theorem l_PM_96 : ml_OK "PlainMusic" 96 ⟨"PlainMusic$Judge", "forget", "()V"⟩ := Or.inl (gw_in 987 (by decide +kernel) (by decide +kernel))
theorem k_Judge_forget : mt_OK m_Judge_forget 0 1 := ⟨(gw_in 990 (by decide +kernel) (by decide +kernel)), (gw_in 140 (by decide +kernel) (by decide +kernel)), ⟨by decide +kernel, by decide +kernel, by decide +kernel⟩, fun h => absurd h (by decide), fun _ => ⟨(gw_in 988 (by decide +kernel) (by decide +kernel)), (gw_in 989 (by decide +kernel) (by decide +kernel))⟩, fun h => absurd h (by decide)⟩
theorem d_PM_forgetFindings_7 : decode prog_1_method_6_code 7 = .ok (.aload_n 0, 1) := by decide +kernel
theorem d_PM_forgetFindings_8 : decode prog_1_method_6_code 8 = .ok (.getfield 44, 3) := by decide +kernel
theorem d_PM_forgetFindings_11 : decode prog_1_method_6_code 11 = .ok (.invokevirtual 99, 3) := by decide +kernel
theorem d_Beams_forget_0 : decode prog_2_method_2_code 0 = .ok (.aload_n 0, 1) := by decide +kernel
theorem d_Beams_forget_1 : decode prog_2_method_2_code 1 = .ok (.iconst 0, 1) := by decide +kernel
theorem d_Beams_forget_2 : decode prog_2_method_2_code 2 = .ok (.putfield 21, 3) := by decide +kernel
theorem f_Beams_21 : fl_OK "PlainMusic$Beams" 21 0 1 .int false := ⟨_, rfl, by decide, (gw_in 463 (by decide +kernel) (by decide +kernel)), rfl, rfl⟩
theorem d_Beams_forget_5 : decode prog_2_method_2_code 5 = .ok (.return_, 1) := by decide +kernel
def m_Beams_forget : mr_T := (⟨"PlainMusic$Beams", "forget", "()V"⟩, prog_2_method_2_code, 1, none)
theorem l_PM_99 : ml_OK "PlainMusic" 99 ⟨"PlainMusic$Beams", "forget", "()V"⟩ := Or.inl (gw_in 991 (by decide +kernel) (by decide +kernel))
theorem k_Beams_forget : mt_OK m_Beams_forget 0 1 := ⟨(gw_in 994 (by decide +kernel) (by decide +kernel)), (gw_in 141 (by decide +kernel) (by decide +kernel)), ⟨by decide +kernel, by decide +kernel, by decide +kernel⟩, fun h => absurd h (by decide), fun _ => ⟨(gw_in 992 (by decide +kernel) (by decide +kernel)), (gw_in 993 (by decide +kernel) (by decide +kernel))⟩, fun h => absurd h (by decide)⟩
theorem d_PM_forgetFindings_14 : decode prog_1_method_6_code 14 = .ok (.aload_n 0, 1) := by decide +kernel
theorem d_PM_forgetFindings_15 : decode prog_1_method_6_code 15 = .ok (.getfield 51, 3) := by decide +kernel
theorem d_PM_forgetFindings_18 : decode prog_1_method_6_code 18 = .ok (.invokevirtual 100, 3) := by decide +kernel
theorem d_Page_forget_0 : decode prog_4_method_2_code 0 = .ok (.aload_n 0, 1) := by decide +kernel
theorem d_Page_forget_1 : decode prog_4_method_2_code 1 = .ok (.iconst 0, 1) := by decide +kernel
theorem d_Page_forget_2 : decode prog_4_method_2_code 2 = .ok (.putfield 34, 3) := by decide +kernel
theorem f_Page_34 : fl_OK "PlainMusic$Page" 34 2 1 .int false := ⟨_, rfl, by decide, (gw_in 482 (by decide +kernel) (by decide +kernel)), rfl, rfl⟩
theorem d_Page_forget_5 : decode prog_4_method_2_code 5 = .ok (.return_, 1) := by decide +kernel
def m_Page_forget : mr_T := (⟨"PlainMusic$Page", "forget", "()V"⟩, prog_4_method_2_code, 1, none)
theorem l_PM_100 : ml_OK "PlainMusic" 100 ⟨"PlainMusic$Page", "forget", "()V"⟩ := Or.inl (gw_in 995 (by decide +kernel) (by decide +kernel))
theorem k_Page_forget : mt_OK m_Page_forget 0 1 := ⟨(gw_in 998 (by decide +kernel) (by decide +kernel)), (gw_in 142 (by decide +kernel) (by decide +kernel)), ⟨by decide +kernel, by decide +kernel, by decide +kernel⟩, fun h => absurd h (by decide), fun _ => ⟨(gw_in 996 (by decide +kernel) (by decide +kernel)), (gw_in 997 (by decide +kernel) (by decide +kernel))⟩, fun h => absurd h (by decide)⟩
theorem d_PM_forgetFindings_21 : decode prog_1_method_6_code 21 = .ok (.aload_n 0, 1) := by decide +kernel
theorem d_PM_forgetFindings_22 : decode prog_1_method_6_code 22 = .ok (.getfield 58, 3) := by decide +kernel
theorem d_PM_forgetFindings_25 : decode prog_1_method_6_code 25 = .ok (.invokevirtual 101, 3) := by decide +kernel
theorem d_Seconds_forget_0 : decode prog_9_method_2_code 0 = .ok (.aload_n 0, 1) := by decide +kernel
theorem d_Seconds_forget_1 : decode prog_9_method_2_code 1 = .ok (.iconst 0, 1) := by decide +kernel
theorem d_Seconds_forget_2 : decode prog_9_method_2_code 2 = .ok (.putfield 22, 3) := by decide +kernel
theorem f_Seconds_22 : fl_OK "PlainMusic$Seconds" 22 7 1 .int false := ⟨_, rfl, by decide, (gw_in 513 (by decide +kernel) (by decide +kernel)), rfl, rfl⟩
theorem d_Seconds_forget_5 : decode prog_9_method_2_code 5 = .ok (.return_, 1) := by decide +kernel
def m_Seconds_forget : mr_T := (⟨"PlainMusic$Seconds", "forget", "()V"⟩, prog_9_method_2_code, 1, none)
theorem l_PM_101 : ml_OK "PlainMusic" 101 ⟨"PlainMusic$Seconds", "forget", "()V"⟩ := Or.inl (gw_in 999 (by decide +kernel) (by decide +kernel))
theorem k_Seconds_forget : mt_OK m_Seconds_forget 0 1 := ⟨(gw_in 1002 (by decide +kernel) (by decide +kernel)), (gw_in 143 (by decide +kernel) (by decide +kernel)), ⟨by decide +kernel, by decide +kernel, by decide +kernel⟩, fun h => absurd h (by decide), fun _ => ⟨(gw_in 1000 (by decide +kernel) (by decide +kernel)), (gw_in 1001 (by decide +kernel) (by decide +kernel))⟩, fun h => absurd h (by decide)⟩
theorem d_PM_forgetFindings_28 : decode prog_1_method_6_code 28 = .ok (.aload_n 0, 1) := by decide +kernel
theorem d_PM_forgetFindings_29 : decode prog_1_method_6_code 29 = .ok (.getfield 65, 3) := by decide +kernel
theorem d_PM_forgetFindings_32 : decode prog_1_method_6_code 32 = .ok (.invokevirtual 102, 3) := by decide +kernel
theorem d_Trees_forget_0 : decode prog_11_method_2_code 0 = .ok (.aload_n 0, 1) := by decide +kernel
theorem d_Trees_forget_1 : decode prog_11_method_2_code 1 = .ok (.iconst 0, 1) := by decide +kernel
theorem d_Trees_forget_2 : decode prog_11_method_2_code 2 = .ok (.putfield 15, 3) := by decide +kernel
theorem f_Trees_15 : fl_OK "PlainMusic$Trees" 15 9 1 .int false := ⟨_, rfl, by decide, (gw_in 544 (by decide +kernel) (by decide +kernel)), rfl, rfl⟩
theorem d_Trees_forget_5 : decode prog_11_method_2_code 5 = .ok (.return_, 1) := by decide +kernel
def m_Trees_forget : mr_T := (⟨"PlainMusic$Trees", "forget", "()V"⟩, prog_11_method_2_code, 1, none)
theorem l_PM_102 : ml_OK "PlainMusic" 102 ⟨"PlainMusic$Trees", "forget", "()V"⟩ := Or.inl (gw_in 1003 (by decide +kernel) (by decide +kernel))
theorem k_Trees_forget : mt_OK m_Trees_forget 0 1 := ⟨(gw_in 1006 (by decide +kernel) (by decide +kernel)), (gw_in 144 (by decide +kernel) (by decide +kernel)), ⟨by decide +kernel, by decide +kernel, by decide +kernel⟩, fun h => absurd h (by decide), fun _ => ⟨(gw_in 1004 (by decide +kernel) (by decide +kernel)), (gw_in 1005 (by decide +kernel) (by decide +kernel))⟩, fun h => absurd h (by decide)⟩
theorem d_PM_forgetFindings_35 : decode prog_1_method_6_code 35 = .ok (.aload_n 0, 1) := by decide +kernel
theorem d_PM_forgetFindings_36 : decode prog_1_method_6_code 36 = .ok (.getfield 72, 3) := by decide +kernel
theorem d_PM_forgetFindings_39 : decode prog_1_method_6_code 39 = .ok (.invokevirtual 103, 3) := by decide +kernel
theorem d_Pairing_forget_0 : decode prog_5_method_2_code 0 = .ok (.aload_n 0, 1) := by decide +kernel
theorem d_Pairing_forget_1 : decode prog_5_method_2_code 1 = .ok (.iconst 0, 1) := by decide +kernel
theorem d_Pairing_forget_2 : decode prog_5_method_2_code 2 = .ok (.putfield 27, 3) := by decide +kernel
theorem f_Pairing_27 : fl_OK "PlainMusic$Pairing" 27 3 5 .int false := ⟨_, rfl, by decide, (gw_in 573 (by decide +kernel) (by decide +kernel)), rfl, rfl⟩
theorem d_Pairing_forget_5 : decode prog_5_method_2_code 5 = .ok (.aload_n 0, 1) := by decide +kernel
theorem d_Pairing_forget_6 : decode prog_5_method_2_code 6 = .ok (.iconst 0, 1) := by decide +kernel
theorem d_Pairing_forget_7 : decode prog_5_method_2_code 7 = .ok (.putfield 31, 3) := by decide +kernel
theorem f_Pairing_31 : fl_OK "PlainMusic$Pairing" 31 3 7 .int false := ⟨_, rfl, by decide, (gw_in 575 (by decide +kernel) (by decide +kernel)), rfl, rfl⟩
theorem d_Pairing_forget_10 : decode prog_5_method_2_code 10 = .ok (.return_, 1) := by decide +kernel
def m_Pairing_forget : mr_T := (⟨"PlainMusic$Pairing", "forget", "()V"⟩, prog_5_method_2_code, 1, none)
theorem l_PM_103 : ml_OK "PlainMusic" 103 ⟨"PlainMusic$Pairing", "forget", "()V"⟩ := Or.inl (gw_in 1007 (by decide +kernel) (by decide +kernel))
theorem k_Pairing_forget : mt_OK m_Pairing_forget 0 1 := ⟨(gw_in 1010 (by decide +kernel) (by decide +kernel)), (gw_in 145 (by decide +kernel) (by decide +kernel)), ⟨by decide +kernel, by decide +kernel, by decide +kernel⟩, fun h => absurd h (by decide), fun _ => ⟨(gw_in 1008 (by decide +kernel) (by decide +kernel)), (gw_in 1009 (by decide +kernel) (by decide +kernel))⟩, fun h => absurd h (by decide)⟩
theorem d_PM_forgetFindings_42 : decode prog_1_method_6_code 42 = .ok (.return_, 1) := by decide +kernel
def m_PM_forgetFindings : mr_T := (⟨"PlainMusic", "forgetFindings", "()V"⟩, prog_1_method_6_code, 1, none)
theorem l_PM_89 : ml_OK "PlainMusic" 89 ⟨"PlainMusic", "forgetFindings", "()V"⟩ := Or.inl (gw_in 983 (by decide +kernel) (by decide +kernel))
theorem k_PM_forgetFindings : mt_OK m_PM_forgetFindings 0 1 := ⟨(gw_in 986 (by decide +kernel) (by decide +kernel)), (gw_in 134 (by decide +kernel) (by decide +kernel)), ⟨by decide +kernel, by decide +kernel, by decide +kernel⟩, fun h => absurd h (by decide), fun _ => ⟨(gw_in 985 (by decide +kernel) (by decide +kernel)), (gw_in 27 (by decide +kernel) (by decide +kernel))⟩, fun h => absurd h (by decide)⟩
theorem q_R_0_5 : hp_0.2.2.2 0 5 = some 143 := by decide +kernel
theorem q_s_143 : hp_0.1[143]? = some (1 + 4, 3) := by decide +kernel
theorem q_R_0_6 : hp_0.2.2.2 0 6 = some 146 := by decide +kernel
theorem q_s_146 : hp_0.1[146]? = some (0 + 4, 4) := by decide +kernel
theorem q_R_0_7 : hp_0.2.2.2 0 7 = some 150 := by decide +kernel
theorem q_s_150 : hp_0.1[150]? = some (2 + 4, 8) := by decide +kernel
theorem q_R_0_8 : hp_0.2.2.2 0 8 = some 158 := by decide +kernel
theorem q_s_158 : hp_0.1[158]? = some (7 + 4, 8) := by decide +kernel
theorem q_R_0_9 : hp_0.2.2.2 0 9 = some 162 := by decide +kernel
theorem q_s_162 : hp_0.1[162]? = some (9 + 4, 6) := by decide +kernel
theorem q_R_0_10 : hp_0.2.2.2 0 10 = some 164 := by decide +kernel
theorem q_s_164 : hp_0.1[164]? = some (3 + 4, 8) := by decide +kernel
theorem d_PM_score_66 : decode prog_1_method_5_code 66 = .ok (.aload_n 0, 1) := by decide +kernel
theorem d_PM_score_67 : decode prog_1_method_5_code 67 = .ok (.getfield 27, 3) := by decide +kernel
theorem d_PM_score_70 : decode prog_1_method_5_code 70 = .ok (.invokevirtual 92, 3) := by decide +kernel
theorem d_Score_allEvents_0 : decode prog_8_method_9_code 0 = .ok (.iconst 0, 1) := by decide +kernel
theorem d_Score_allEvents_1 : decode prog_8_method_9_code 1 = .ok (.istore_n 1, 1) := by decide +kernel
theorem d_Score_allEvents_2 : decode prog_8_method_9_code 2 = .ok (.iconst 0, 1) := by decide +kernel
theorem d_Score_allEvents_3 : decode prog_8_method_9_code 3 = .ok (.istore_n 2, 1) := by decide +kernel
theorem d_Score_allEvents_4 : decode prog_8_method_9_code 4 = .ok (.iload_n 2, 1) := by decide +kernel
theorem d_Score_allEvents_5 : decode prog_8_method_9_code 5 = .ok (.aload_n 0, 1) := by decide +kernel
theorem d_Score_allEvents_6 : decode prog_8_method_9_code 6 = .ok (.getfield 41, 3) := by decide +kernel
theorem d_Score_allEvents_9 : decode prog_8_method_9_code 9 = .ok (.if_icmp .ge 30, 3) := by decide +kernel
theorem d_Score_allEvents_39 : decode prog_8_method_9_code 39 = .ok (.iload_n 1, 1) := by decide +kernel
theorem d_Score_allEvents_40 : decode prog_8_method_9_code 40 = .ok (.ireturn, 1) := by decide +kernel
def m_Score_allEvents : mr_T := (⟨"PlainMusic$Score", "allEvents", "()I"⟩, prog_8_method_9_code, 4, some .int)
theorem l_PM_92 : ml_OK "PlainMusic" 92 ⟨"PlainMusic$Score", "allEvents", "()I"⟩ := Or.inl (gw_in 1011 (by decide +kernel) (by decide +kernel))
theorem k_Score_allEvents : mt_OK m_Score_allEvents 0 1 := ⟨(gw_in 1014 (by decide +kernel) (by decide +kernel)), (gw_in 138 (by decide +kernel) (by decide +kernel)), ⟨by decide +kernel, by decide +kernel, by decide +kernel⟩, fun h => absurd h (by decide), fun _ => ⟨(gw_in 1012 (by decide +kernel) (by decide +kernel)), (gw_in 1013 (by decide +kernel) (by decide +kernel))⟩, fun h => absurd h (by decide)⟩
theorem d_PM_score_73 : decode prog_1_method_5_code 73 = .ok (.ireturn, 1) := by decide +kernel
def m_PM_score : mr_T := (⟨"PlainMusic", "score", "()I"⟩, prog_1_method_5_code, 2, some .int)
theorem d_PM_place_0 : decode prog_1_method_7_code 0 = .ok (.aload_n 0, 1) := by decide +kernel
theorem d_PM_place_1 : decode prog_1_method_7_code 1 = .ok (.getfield 31, 3) := by decide +kernel
theorem q_I_0_4 : hp_0.2.1 0 4 = (-2) := by decide +kernel
theorem d_PM_place_4 : decode prog_1_method_7_code 4 = .ok (.ireturn, 1) := by decide +kernel
def m_PM_place : mr_T := (⟨"PlainMusic", "place", "()I"⟩, prog_1_method_7_code, 1, some .int)
theorem d_PM_told_0 : decode prog_1_method_8_code 0 = .ok (.iload_n 1, 1) := by decide +kernel
theorem d_PM_told_1 : decode prog_1_method_8_code 1 = .ok (.tableswitch 99 0 6 #[43, 51, 59, 67, 75, 83, 91], 43) := by decide +kernel
theorem d_PM_told_100 : decode prog_1_method_8_code 100 = .ok (.iconst (-1), 1) := by decide +kernel
theorem d_PM_told_101 : decode prog_1_method_8_code 101 = .ok (.ireturn, 1) := by decide +kernel
theorem d_PM_told_44 : decode prog_1_method_8_code 44 = .ok (.aload_n 0, 1) := by decide +kernel
theorem d_PM_told_45 : decode prog_1_method_8_code 45 = .ok (.getfield 27, 3) := by decide +kernel
theorem d_PM_told_48 : decode prog_1_method_8_code 48 = .ok (.getfield 104, 3) := by decide +kernel
theorem f_PM_104 : fl_OK "PlainMusic" 104 6 1 .int false := ⟨_, rfl, by decide, (gw_in 354 (by decide +kernel) (by decide +kernel)), rfl, rfl⟩
theorem q_s_80 : hp_0.1[80]? = some (6 + 4, 13) := by decide +kernel
theorem q_I_80_1 : hp_0.2.1 80 1 = 0 := by decide +kernel
theorem d_PM_told_51 : decode prog_1_method_8_code 51 = .ok (.ireturn, 1) := by decide +kernel
theorem d_PM_told_52 : decode prog_1_method_8_code 52 = .ok (.aload_n 0, 1) := by decide +kernel
theorem d_PM_told_53 : decode prog_1_method_8_code 53 = .ok (.getfield 27, 3) := by decide +kernel
theorem d_PM_told_56 : decode prog_1_method_8_code 56 = .ok (.getfield 107, 3) := by decide +kernel
theorem f_PM_107 : fl_OK "PlainMusic" 107 6 6 .int false := ⟨_, rfl, by decide, (gw_in 367 (by decide +kernel) (by decide +kernel)), rfl, rfl⟩
theorem q_I_80_6 : hp_0.2.1 80 6 = 0 := by decide +kernel
theorem d_PM_told_59 : decode prog_1_method_8_code 59 = .ok (.ireturn, 1) := by decide +kernel
theorem d_PM_told_60 : decode prog_1_method_8_code 60 = .ok (.aload_n 0, 1) := by decide +kernel
theorem d_PM_told_61 : decode prog_1_method_8_code 61 = .ok (.getfield 27, 3) := by decide +kernel
theorem d_PM_told_64 : decode prog_1_method_8_code 64 = .ok (.getfield 110, 3) := by decide +kernel
theorem f_PM_110 : fl_OK "PlainMusic" 110 6 10 .int false := ⟨_, rfl, by decide, (gw_in 377 (by decide +kernel) (by decide +kernel)), rfl, rfl⟩
theorem q_I_80_10 : hp_0.2.1 80 10 = 0 := by decide +kernel
theorem d_PM_told_67 : decode prog_1_method_8_code 67 = .ok (.ireturn, 1) := by decide +kernel
theorem d_PM_told_68 : decode prog_1_method_8_code 68 = .ok (.aload_n 0, 1) := by decide +kernel
theorem d_PM_told_69 : decode prog_1_method_8_code 69 = .ok (.getfield 27, 3) := by decide +kernel
theorem d_PM_told_72 : decode prog_1_method_8_code 72 = .ok (.getfield 113, 3) := by decide +kernel
theorem f_PM_113 : fl_OK "PlainMusic" 113 6 12 .int false := ⟨_, rfl, by decide, (gw_in 383 (by decide +kernel) (by decide +kernel)), rfl, rfl⟩
theorem q_I_80_12 : hp_0.2.1 80 12 = 0 := by decide +kernel
theorem d_PM_told_75 : decode prog_1_method_8_code 75 = .ok (.ireturn, 1) := by decide +kernel
theorem d_PM_told_76 : decode prog_1_method_8_code 76 = .ok (.aload_n 0, 1) := by decide +kernel
theorem d_PM_told_77 : decode prog_1_method_8_code 77 = .ok (.getfield 27, 3) := by decide +kernel
theorem d_PM_told_80 : decode prog_1_method_8_code 80 = .ok (.invokevirtual 116, 3) := by decide +kernel
theorem d_Score_mostBars_0 : decode prog_8_method_10_code 0 = .ok (.iconst 0, 1) := by decide +kernel
theorem d_Score_mostBars_1 : decode prog_8_method_10_code 1 = .ok (.istore_n 1, 1) := by decide +kernel
theorem d_Score_mostBars_2 : decode prog_8_method_10_code 2 = .ok (.iconst 0, 1) := by decide +kernel
theorem d_Score_mostBars_3 : decode prog_8_method_10_code 3 = .ok (.istore_n 2, 1) := by decide +kernel
theorem d_Score_mostBars_4 : decode prog_8_method_10_code 4 = .ok (.iload_n 2, 1) := by decide +kernel
theorem d_Score_mostBars_5 : decode prog_8_method_10_code 5 = .ok (.aload_n 0, 1) := by decide +kernel
theorem d_Score_mostBars_6 : decode prog_8_method_10_code 6 = .ok (.getfield 41, 3) := by decide +kernel
theorem d_Score_mostBars_9 : decode prog_8_method_10_code 9 = .ok (.if_icmp .ge 32, 3) := by decide +kernel
theorem d_Score_mostBars_41 : decode prog_8_method_10_code 41 = .ok (.iload_n 1, 1) := by decide +kernel
theorem d_Score_mostBars_42 : decode prog_8_method_10_code 42 = .ok (.ireturn, 1) := by decide +kernel
def m_Score_mostBars : mr_T := (⟨"PlainMusic$Score", "mostBars", "()I"⟩, prog_8_method_10_code, 4, some .int)
theorem l_PM_116 : ml_OK "PlainMusic" 116 ⟨"PlainMusic$Score", "mostBars", "()I"⟩ := Or.inl (gw_in 1028 (by decide +kernel) (by decide +kernel))
theorem k_Score_mostBars : mt_OK m_Score_mostBars 0 1 := ⟨(gw_in 1031 (by decide +kernel) (by decide +kernel)), (gw_in 138 (by decide +kernel) (by decide +kernel)), ⟨by decide +kernel, by decide +kernel, by decide +kernel⟩, fun h => absurd h (by decide), fun _ => ⟨(gw_in 1029 (by decide +kernel) (by decide +kernel)), (gw_in 1030 (by decide +kernel) (by decide +kernel))⟩, fun h => absurd h (by decide)⟩
theorem d_PM_told_83 : decode prog_1_method_8_code 83 = .ok (.ireturn, 1) := by decide +kernel
theorem d_PM_told_84 : decode prog_1_method_8_code 84 = .ok (.aload_n 0, 1) := by decide +kernel
theorem d_PM_told_85 : decode prog_1_method_8_code 85 = .ok (.getfield 27, 3) := by decide +kernel
theorem d_PM_told_88 : decode prog_1_method_8_code 88 = .ok (.getfield 119, 3) := by decide +kernel
theorem f_PM_119 : fl_OK "PlainMusic" 119 6 2 .int false := ⟨_, rfl, by decide, (gw_in 357 (by decide +kernel) (by decide +kernel)), rfl, rfl⟩
theorem q_I_80_2 : hp_0.2.1 80 2 = 4 := by decide +kernel
theorem d_PM_told_91 : decode prog_1_method_8_code 91 = .ok (.ireturn, 1) := by decide +kernel
theorem d_PM_told_92 : decode prog_1_method_8_code 92 = .ok (.aload_n 0, 1) := by decide +kernel
theorem d_PM_told_93 : decode prog_1_method_8_code 93 = .ok (.getfield 27, 3) := by decide +kernel
theorem d_PM_told_96 : decode prog_1_method_8_code 96 = .ok (.getfield 122, 3) := by decide +kernel
theorem f_PM_122 : fl_OK "PlainMusic" 122 6 3 .int false := ⟨_, rfl, by decide, (gw_in 360 (by decide +kernel) (by decide +kernel)), rfl, rfl⟩
theorem q_I_80_3 : hp_0.2.1 80 3 = 4 := by decide +kernel
theorem d_PM_told_99 : decode prog_1_method_8_code 99 = .ok (.ireturn, 1) := by decide +kernel
def m_PM_told : mr_T := (⟨"PlainMusic", "told", "(I)I"⟩, prog_1_method_8_code, 2, some .int)
theorem d_PM_count_0 : decode prog_1_method_9_code 0 = .ok (.aload_n 0, 1) := by decide +kernel
theorem d_PM_count_1 : decode prog_1_method_9_code 1 = .ok (.getfield 27, 3) := by decide +kernel
theorem d_PM_count_4 : decode prog_1_method_9_code 4 = .ok (.iload_n 1, 1) := by decide +kernel
theorem d_PM_count_5 : decode prog_1_method_9_code 5 = .ok (.invokevirtual 125, 3) := by decide +kernel
theorem d_Score_voiceAt_0 : decode prog_8_method_5_code 0 = .ok (.iload_n 1, 1) := by decide +kernel
theorem d_Score_voiceAt_1 : decode prog_8_method_5_code 1 = .ok (.ifCond .lt 29, 3) := by decide +kernel
theorem d_Score_voiceAt_30 : decode prog_8_method_5_code 30 = .ok (.aconst_null, 1) := by decide +kernel
theorem d_Score_voiceAt_31 : decode prog_8_method_5_code 31 = .ok (.areturn, 1) := by decide +kernel
theorem d_Score_voiceAt_4 : decode prog_8_method_5_code 4 = .ok (.iload_n 1, 1) := by decide +kernel
theorem d_Score_voiceAt_5 : decode prog_8_method_5_code 5 = .ok (.aload_n 0, 1) := by decide +kernel
theorem d_Score_voiceAt_6 : decode prog_8_method_5_code 6 = .ok (.getfield 41, 3) := by decide +kernel
theorem d_Score_voiceAt_9 : decode prog_8_method_5_code 9 = .ok (.if_icmp .ge 21, 3) := by decide +kernel
def m_Score_voiceAt : mr_T := (⟨"PlainMusic$Score", "voiceAt", "(I)LPlainMusic$Voice;"⟩, prog_8_method_5_code, 2, some (.object "PlainMusic$Voice"))
theorem l_PM_125 : ml_OK "PlainMusic" 125 ⟨"PlainMusic$Score", "voiceAt", "(I)LPlainMusic$Voice;"⟩ := Or.inl (gw_in 1037 (by decide +kernel) (by decide +kernel))
theorem k_Score_voiceAt : mt_OK m_Score_voiceAt 1 1 := ⟨(gw_in 1018 (by decide +kernel) (by decide +kernel)), (gw_in 138 (by decide +kernel) (by decide +kernel)), ⟨by decide +kernel, by decide +kernel, by decide +kernel⟩, fun h => absurd h (by decide), fun _ => ⟨(gw_in 1016 (by decide +kernel) (by decide +kernel)), (gw_in 1017 (by decide +kernel) (by decide +kernel))⟩, fun h => absurd h (by decide)⟩
theorem d_PM_count_8 : decode prog_1_method_9_code 8 = .ok (.astore_n 3, 1) := by decide +kernel
theorem d_PM_count_9 : decode prog_1_method_9_code 9 = .ok (.aload_n 3, 1) := by decide +kernel
theorem d_PM_count_10 : decode prog_1_method_9_code 10 = .ok (.ifnonnull 5, 3) := by decide +kernel
theorem d_PM_count_13 : decode prog_1_method_9_code 13 = .ok (.iconst (-1), 1) := by decide +kernel
theorem d_PM_count_14 : decode prog_1_method_9_code 14 = .ok (.ireturn, 1) := by decide +kernel
def m_PM_count : mr_T := (⟨"PlainMusic", "count", "(II)I"⟩, prog_1_method_9_code, 4, some .int)
theorem d_PM_event_0 : decode prog_1_method_10_code 0 = .ok (.aload_n 0, 1) := by decide +kernel
theorem d_PM_event_1 : decode prog_1_method_10_code 1 = .ok (.getfield 27, 3) := by decide +kernel
theorem d_PM_event_4 : decode prog_1_method_10_code 4 = .ok (.iload_n 1, 1) := by decide +kernel
theorem d_PM_event_5 : decode prog_1_method_10_code 5 = .ok (.invokevirtual 125, 3) := by decide +kernel
theorem d_PM_event_8 : decode prog_1_method_10_code 8 = .ok (.astore 4, 2) := by decide +kernel
theorem d_PM_event_10 : decode prog_1_method_10_code 10 = .ok (.aload 4, 2) := by decide +kernel
theorem d_PM_event_12 : decode prog_1_method_10_code 12 = .ok (.ifnull 16, 3) := by decide +kernel
theorem d_PM_event_28 : decode prog_1_method_10_code 28 = .ok (.ldc2_w 137, 3) := by decide +kernel
theorem cst_PM_137 : Cond.constantLong "PlainMusic" 137 (Int64.ofInt 10000) ∈ gw := (gw_in 1042 (by decide +kernel) (by decide +kernel))
theorem d_PM_event_31 : decode prog_1_method_10_code 31 = .ok (.lreturn, 1) := by decide +kernel
def m_PM_event : mr_T := (⟨"PlainMusic", "event", "(III)J"⟩, prog_1_method_10_code, 5, some .long)
theorem d_PM_judge_0 : decode prog_1_method_11_code 0 = .ok (.aload_n 0, 1) := by decide +kernel
theorem d_PM_judge_1 : decode prog_1_method_11_code 1 = .ok (.getfield 37, 3) := by decide +kernel
theorem d_PM_judge_4 : decode prog_1_method_11_code 4 = .ok (.aload_n 0, 1) := by decide +kernel
theorem d_PM_judge_5 : decode prog_1_method_11_code 5 = .ok (.getfield 27, 3) := by decide +kernel
theorem d_PM_judge_8 : decode prog_1_method_11_code 8 = .ok (.invokevirtual 157, 3) := by decide +kernel
theorem d_Judge_hear_0 : decode prog_3_method_3_code 0 = .ok (.aload_n 0, 1) := by decide +kernel
theorem d_Judge_hear_1 : decode prog_3_method_3_code 1 = .ok (.iconst 0, 1) := by decide +kernel
theorem d_Judge_hear_2 : decode prog_3_method_3_code 2 = .ok (.putfield 18, 3) := by decide +kernel
theorem d_Judge_hear_5 : decode prog_3_method_3_code 5 = .ok (.iconst 0, 1) := by decide +kernel
theorem d_Judge_hear_6 : decode prog_3_method_3_code 6 = .ok (.istore_n 2, 1) := by decide +kernel
theorem d_Judge_hear_7 : decode prog_3_method_3_code 7 = .ok (.iload_n 2, 1) := by decide +kernel
theorem d_Judge_hear_8 : decode prog_3_method_3_code 8 = .ok (.aload_n 1, 1) := by decide +kernel
theorem d_Judge_hear_9 : decode prog_3_method_3_code 9 = .ok (.getfield 22, 3) := by decide +kernel
theorem f_Judge_22 : fl_OK "PlainMusic$Judge" 22 6 1 .int false := ⟨_, rfl, by decide, (gw_in 352 (by decide +kernel) (by decide +kernel)), rfl, rfl⟩
theorem d_Judge_hear_12 : decode prog_3_method_3_code 12 = .ok (.if_icmp .ge 26, 3) := by decide +kernel
theorem d_Judge_hear_38 : decode prog_3_method_3_code 38 = .ok (.aload_n 0, 1) := by decide +kernel
theorem d_Judge_hear_39 : decode prog_3_method_3_code 39 = .ok (.getfield 18, 3) := by decide +kernel
theorem d_Judge_hear_42 : decode prog_3_method_3_code 42 = .ok (.ireturn, 1) := by decide +kernel
def m_Judge_hear : mr_T := (⟨"PlainMusic$Judge", "hear", "(LPlainMusic$Score;)I"⟩, prog_3_method_3_code, 4, some .int)
theorem l_PM_157 : ml_OK "PlainMusic" 157 ⟨"PlainMusic$Judge", "hear", "(LPlainMusic$Score;)I"⟩ := Or.inl (gw_in 1076 (by decide +kernel) (by decide +kernel))
theorem k_Judge_hear : mt_OK m_Judge_hear 1 1 := ⟨(gw_in 1079 (by decide +kernel) (by decide +kernel)), (gw_in 140 (by decide +kernel) (by decide +kernel)), ⟨by decide +kernel, by decide +kernel, by decide +kernel⟩, fun h => absurd h (by decide), fun _ => ⟨(gw_in 1077 (by decide +kernel) (by decide +kernel)), (gw_in 1078 (by decide +kernel) (by decide +kernel))⟩, fun h => absurd h (by decide)⟩
theorem d_PM_judge_11 : decode prog_1_method_11_code 11 = .ok (.ireturn, 1) := by decide +kernel
def m_PM_judge : mr_T := (⟨"PlainMusic", "judge", "()I"⟩, prog_1_method_11_code, 1, some .int)
theorem d_PM_fault_0 : decode prog_1_method_12_code 0 = .ok (.aload_n 0, 1) := by decide +kernel
theorem d_PM_fault_1 : decode prog_1_method_12_code 1 = .ok (.getfield 37, 3) := by decide +kernel
theorem d_PM_fault_4 : decode prog_1_method_12_code 4 = .ok (.iload_n 1, 1) := by decide +kernel
theorem d_PM_fault_5 : decode prog_1_method_12_code 5 = .ok (.iload_n 2, 1) := by decide +kernel
theorem d_PM_fault_6 : decode prog_1_method_12_code 6 = .ok (.invokevirtual 161, 3) := by decide +kernel
theorem d_Judge_detailOf_0 : decode prog_3_method_4_code 0 = .ok (.iload_n 1, 1) := by decide +kernel
theorem d_Judge_detailOf_1 : decode prog_3_method_4_code 1 = .ok (.ifCond .lt 20, 3) := by decide +kernel
theorem d_Judge_detailOf_21 : decode prog_3_method_4_code 21 = .ok (.iconst (-1), 1) := by decide +kernel
theorem d_Judge_detailOf_22 : decode prog_3_method_4_code 22 = .ok (.ireturn, 1) := by decide +kernel
theorem d_Judge_detailOf_4 : decode prog_3_method_4_code 4 = .ok (.iload_n 1, 1) := by decide +kernel
theorem d_Judge_detailOf_5 : decode prog_3_method_4_code 5 = .ok (.aload_n 0, 1) := by decide +kernel
theorem d_Judge_detailOf_6 : decode prog_3_method_4_code 6 = .ok (.getfield 18, 3) := by decide +kernel
theorem d_Judge_detailOf_9 : decode prog_3_method_4_code 9 = .ok (.if_icmp .ge 12, 3) := by decide +kernel
def m_Judge_detailOf : mr_T := (⟨"PlainMusic$Judge", "detailOf", "(II)I"⟩, prog_3_method_4_code, 4, some .int)
theorem l_PM_161 : ml_OK "PlainMusic" 161 ⟨"PlainMusic$Judge", "detailOf", "(II)I"⟩ := Or.inl (gw_in 1163 (by decide +kernel) (by decide +kernel))
theorem k_Judge_detailOf : mt_OK m_Judge_detailOf 2 1 := ⟨(gw_in 1166 (by decide +kernel) (by decide +kernel)), (gw_in 140 (by decide +kernel) (by decide +kernel)), ⟨by decide +kernel, by decide +kernel, by decide +kernel⟩, fun h => absurd h (by decide), fun _ => ⟨(gw_in 1164 (by decide +kernel) (by decide +kernel)), (gw_in 1165 (by decide +kernel) (by decide +kernel))⟩, fun h => absurd h (by decide)⟩
theorem q_I_143_1 : hp_0.2.1 143 1 = 0 := by decide +kernel
theorem d_PM_fault_9 : decode prog_1_method_12_code 9 = .ok (.ireturn, 1) := by decide +kernel
def m_PM_fault : mr_T := (⟨"PlainMusic", "fault", "(II)I"⟩, prog_1_method_12_code, 3, some .int)
theorem d_PM_beam_0 : decode prog_1_method_13_code 0 = .ok (.aload_n 0, 1) := by decide +kernel
theorem d_PM_beam_1 : decode prog_1_method_13_code 1 = .ok (.getfield 27, 3) := by decide +kernel
theorem d_PM_beam_4 : decode prog_1_method_13_code 4 = .ok (.iload_n 1, 1) := by decide +kernel
theorem d_PM_beam_5 : decode prog_1_method_13_code 5 = .ok (.invokevirtual 125, 3) := by decide +kernel
theorem d_PM_beam_8 : decode prog_1_method_13_code 8 = .ok (.astore_n 3, 1) := by decide +kernel
theorem d_PM_beam_9 : decode prog_1_method_13_code 9 = .ok (.aload_n 3, 1) := by decide +kernel
theorem d_PM_beam_10 : decode prog_1_method_13_code 10 = .ok (.ifnull 15, 3) := by decide +kernel
theorem d_PM_beam_25 : decode prog_1_method_13_code 25 = .ok (.iconst (-1), 1) := by decide +kernel
theorem d_PM_beam_26 : decode prog_1_method_13_code 26 = .ok (.ireturn, 1) := by decide +kernel
def m_PM_beam : mr_T := (⟨"PlainMusic", "beam", "(II)I"⟩, prog_1_method_13_code, 4, some .int)
theorem d_PM_group_0 : decode prog_1_method_14_code 0 = .ok (.aload_n 0, 1) := by decide +kernel
theorem d_PM_group_1 : decode prog_1_method_14_code 1 = .ok (.getfield 44, 3) := by decide +kernel
theorem d_PM_group_4 : decode prog_1_method_14_code 4 = .ok (.iload_n 1, 1) := by decide +kernel
theorem d_PM_group_5 : decode prog_1_method_14_code 5 = .ok (.invokevirtual 168, 3) := by decide +kernel
theorem d_Beams_eventsIn_0 : decode prog_2_method_3_code 0 = .ok (.iload_n 1, 1) := by decide +kernel
theorem d_Beams_eventsIn_1 : decode prog_2_method_3_code 1 = .ok (.ifCond .lt 29, 3) := by decide +kernel
theorem d_Beams_eventsIn_30 : decode prog_2_method_3_code 30 = .ok (.iconst 0, 1) := by decide +kernel
theorem d_Beams_eventsIn_31 : decode prog_2_method_3_code 31 = .ok (.ireturn, 1) := by decide +kernel
theorem d_Beams_eventsIn_4 : decode prog_2_method_3_code 4 = .ok (.iload_n 1, 1) := by decide +kernel
theorem d_Beams_eventsIn_5 : decode prog_2_method_3_code 5 = .ok (.aload_n 0, 1) := by decide +kernel
theorem d_Beams_eventsIn_6 : decode prog_2_method_3_code 6 = .ok (.getfield 21, 3) := by decide +kernel
theorem d_Beams_eventsIn_9 : decode prog_2_method_3_code 9 = .ok (.if_icmp .ge 21, 3) := by decide +kernel
def m_Beams_eventsIn : mr_T := (⟨"PlainMusic$Beams", "eventsIn", "(I)I"⟩, prog_2_method_3_code, 2, some .int)
theorem l_PM_168 : ml_OK "PlainMusic" 168 ⟨"PlainMusic$Beams", "eventsIn", "(I)I"⟩ := Or.inl (gw_in 1201 (by decide +kernel) (by decide +kernel))
theorem k_Beams_eventsIn : mt_OK m_Beams_eventsIn 1 1 := ⟨(gw_in 1204 (by decide +kernel) (by decide +kernel)), (gw_in 141 (by decide +kernel) (by decide +kernel)), ⟨by decide +kernel, by decide +kernel, by decide +kernel⟩, fun h => absurd h (by decide), fun _ => ⟨(gw_in 1202 (by decide +kernel) (by decide +kernel)), (gw_in 1203 (by decide +kernel) (by decide +kernel))⟩, fun h => absurd h (by decide)⟩
theorem q_I_146_1 : hp_0.2.1 146 1 = 0 := by decide +kernel
theorem d_PM_group_8 : decode prog_1_method_14_code 8 = .ok (.ireturn, 1) := by decide +kernel
def m_PM_group : mr_T := (⟨"PlainMusic", "group", "(I)I"⟩, prog_1_method_14_code, 2, some .int)
theorem d_PM_breaks_0 : decode prog_1_method_15_code 0 = .ok (.iload_n 1, 1) := by decide +kernel
theorem d_PM_breaks_1 : decode prog_1_method_15_code 1 = .ok (.iconst 1, 1) := by decide +kernel
theorem d_PM_breaks_2 : decode prog_1_method_15_code 2 = .ok (.if_icmp .lt 10, 3) := by decide +kernel
theorem d_PM_breaks_12 : decode prog_1_method_15_code 12 = .ok (.iconst (-1), 1) := by decide +kernel
theorem d_PM_breaks_13 : decode prog_1_method_15_code 13 = .ok (.ireturn, 1) := by decide +kernel
theorem d_PM_breaks_5 : decode prog_1_method_15_code 5 = .ok (.iload_n 1, 1) := by decide +kernel
theorem d_PM_breaks_6 : decode prog_1_method_15_code 6 = .ok (.sipush 1000, 3) := by decide +kernel
theorem d_PM_breaks_9 : decode prog_1_method_15_code 9 = .ok (.if_icmp .le 5, 3) := by decide +kernel
theorem d_PM_breaks_14 : decode prog_1_method_15_code 14 = .ok (.aload_n 0, 1) := by decide +kernel
theorem d_PM_breaks_15 : decode prog_1_method_15_code 15 = .ok (.getfield 27, 3) := by decide +kernel
theorem d_PM_breaks_18 : decode prog_1_method_15_code 18 = .ok (.getfield 104, 3) := by decide +kernel
theorem d_PM_breaks_21 : decode prog_1_method_15_code 21 = .ok (.ifCond .ne 6, 3) := by decide +kernel
theorem d_PM_breaks_24 : decode prog_1_method_15_code 24 = .ok (.bipush (-2), 2) := by decide +kernel
theorem d_PM_breaks_26 : decode prog_1_method_15_code 26 = .ok (.ireturn, 1) := by decide +kernel
def m_PM_breaks : mr_T := (⟨"PlainMusic", "breaks", "(I)I"⟩, prog_1_method_15_code, 2, some .int)
theorem d_PM_line_0 : decode prog_1_method_16_code 0 = .ok (.aload_n 0, 1) := by decide +kernel
theorem d_PM_line_1 : decode prog_1_method_16_code 1 = .ok (.getfield 51, 3) := by decide +kernel
theorem d_PM_line_4 : decode prog_1_method_16_code 4 = .ok (.iload_n 1, 1) := by decide +kernel
theorem d_PM_line_5 : decode prog_1_method_16_code 5 = .ok (.invokevirtual 174, 3) := by decide +kernel
theorem d_Page_barsIn_0 : decode prog_4_method_3_code 0 = .ok (.iload_n 1, 1) := by decide +kernel
theorem d_Page_barsIn_1 : decode prog_4_method_3_code 1 = .ok (.ifCond .lt 29, 3) := by decide +kernel
theorem d_Page_barsIn_30 : decode prog_4_method_3_code 30 = .ok (.iconst 0, 1) := by decide +kernel
theorem d_Page_barsIn_31 : decode prog_4_method_3_code 31 = .ok (.ireturn, 1) := by decide +kernel
theorem d_Page_barsIn_4 : decode prog_4_method_3_code 4 = .ok (.iload_n 1, 1) := by decide +kernel
theorem d_Page_barsIn_5 : decode prog_4_method_3_code 5 = .ok (.aload_n 0, 1) := by decide +kernel
theorem d_Page_barsIn_6 : decode prog_4_method_3_code 6 = .ok (.getfield 34, 3) := by decide +kernel
theorem d_Page_barsIn_9 : decode prog_4_method_3_code 9 = .ok (.if_icmp .ge 21, 3) := by decide +kernel
def m_Page_barsIn : mr_T := (⟨"PlainMusic$Page", "barsIn", "(I)I"⟩, prog_4_method_3_code, 2, some .int)
theorem l_PM_174 : ml_OK "PlainMusic" 174 ⟨"PlainMusic$Page", "barsIn", "(I)I"⟩ := Or.inl (gw_in 1266 (by decide +kernel) (by decide +kernel))
theorem k_Page_barsIn : mt_OK m_Page_barsIn 1 1 := ⟨(gw_in 1269 (by decide +kernel) (by decide +kernel)), (gw_in 142 (by decide +kernel) (by decide +kernel)), ⟨by decide +kernel, by decide +kernel, by decide +kernel⟩, fun h => absurd h (by decide), fun _ => ⟨(gw_in 1267 (by decide +kernel) (by decide +kernel)), (gw_in 1268 (by decide +kernel) (by decide +kernel))⟩, fun h => absurd h (by decide)⟩
theorem q_I_150_1 : hp_0.2.1 150 1 = 0 := by decide +kernel
theorem d_PM_line_8 : decode prog_1_method_16_code 8 = .ok (.ireturn, 1) := by decide +kernel
def m_PM_line : mr_T := (⟨"PlainMusic", "line", "(I)I"⟩, prog_1_method_16_code, 2, some .int)
theorem d_PM_width_0 : decode prog_1_method_17_code 0 = .ok (.iload_n 1, 1) := by decide +kernel
theorem d_PM_width_1 : decode prog_1_method_17_code 1 = .ok (.ifCond .lt 14, 3) := by decide +kernel
theorem d_PM_width_15 : decode prog_1_method_17_code 15 = .ok (.iconst (-1), 1) := by decide +kernel
theorem d_PM_width_16 : decode prog_1_method_17_code 16 = .ok (.ireturn, 1) := by decide +kernel
theorem d_PM_width_4 : decode prog_1_method_17_code 4 = .ok (.iload_n 1, 1) := by decide +kernel
theorem d_PM_width_5 : decode prog_1_method_17_code 5 = .ok (.aload_n 0, 1) := by decide +kernel
theorem d_PM_width_6 : decode prog_1_method_17_code 6 = .ok (.getfield 27, 3) := by decide +kernel
theorem d_PM_width_9 : decode prog_1_method_17_code 9 = .ok (.invokevirtual 116, 3) := by decide +kernel
theorem d_PM_width_12 : decode prog_1_method_17_code 12 = .ok (.if_icmp .lt 5, 3) := by decide +kernel
def m_PM_width : mr_T := (⟨"PlainMusic", "width", "(I)I"⟩, prog_1_method_17_code, 2, some .int)
theorem d_PM_lines_0 : decode prog_1_method_18_code 0 = .ok (.iload_n 1, 1) := by decide +kernel
theorem d_PM_lines_1 : decode prog_1_method_18_code 1 = .ok (.ifCond .lt 25, 3) := by decide +kernel
theorem d_PM_lines_26 : decode prog_1_method_18_code 26 = .ok (.iconst (-1), 1) := by decide +kernel
theorem d_PM_lines_27 : decode prog_1_method_18_code 27 = .ok (.ireturn, 1) := by decide +kernel
theorem d_PM_lines_4 : decode prog_1_method_18_code 4 = .ok (.iload_n 2, 1) := by decide +kernel
theorem d_PM_lines_5 : decode prog_1_method_18_code 5 = .ok (.bipush 120, 2) := by decide +kernel
theorem d_PM_lines_7 : decode prog_1_method_18_code 7 = .ok (.if_icmp .gt 19, 3) := by decide +kernel
theorem d_PM_lines_10 : decode prog_1_method_18_code 10 = .ok (.iload_n 1, 1) := by decide +kernel
theorem d_PM_lines_11 : decode prog_1_method_18_code 11 = .ok (.iload_n 2, 1) := by decide +kernel
theorem d_PM_lines_12 : decode prog_1_method_18_code 12 = .ok (.if_icmp .gt 14, 3) := by decide +kernel
theorem d_PM_lines_15 : decode prog_1_method_18_code 15 = .ok (.iload_n 3, 1) := by decide +kernel
theorem d_PM_lines_16 : decode prog_1_method_18_code 16 = .ok (.ifCond .lt 10, 3) := by decide +kernel
theorem d_PM_lines_19 : decode prog_1_method_18_code 19 = .ok (.iload_n 3, 1) := by decide +kernel
theorem d_PM_lines_20 : decode prog_1_method_18_code 20 = .ok (.sipush 511, 3) := by decide +kernel
theorem d_PM_lines_23 : decode prog_1_method_18_code 23 = .ok (.if_icmp .le 5, 3) := by decide +kernel
theorem d_PM_lines_28 : decode prog_1_method_18_code 28 = .ok (.aload_n 0, 1) := by decide +kernel
theorem d_PM_lines_29 : decode prog_1_method_18_code 29 = .ok (.getfield 27, 3) := by decide +kernel
theorem d_PM_lines_32 : decode prog_1_method_18_code 32 = .ok (.getfield 107, 3) := by decide +kernel
theorem d_PM_lines_35 : decode prog_1_method_18_code 35 = .ok (.ifCond .ne 6, 3) := by decide +kernel
theorem d_PM_lines_38 : decode prog_1_method_18_code 38 = .ok (.bipush (-2), 2) := by decide +kernel
theorem d_PM_lines_40 : decode prog_1_method_18_code 40 = .ok (.ireturn, 1) := by decide +kernel
def m_PM_lines : mr_T := (⟨"PlainMusic", "lines", "(III)I"⟩, prog_1_method_18_code, 4, some .int)
theorem d_PM_second_0 : decode prog_1_method_19_code 0 = .ok (.aload_n 0, 1) := by decide +kernel
theorem d_PM_second_1 : decode prog_1_method_19_code 1 = .ok (.getfield 58, 3) := by decide +kernel
theorem d_PM_second_4 : decode prog_1_method_19_code 4 = .ok (.iload_n 1, 1) := by decide +kernel
theorem d_PM_second_5 : decode prog_1_method_19_code 5 = .ok (.iload_n 2, 1) := by decide +kernel
theorem d_PM_second_6 : decode prog_1_method_19_code 6 = .ok (.invokevirtual 183, 3) := by decide +kernel
theorem d_Seconds_keyIn_0 : decode prog_9_method_11_code 0 = .ok (.iload_n 1, 1) := by decide +kernel
theorem d_Seconds_keyIn_1 : decode prog_9_method_11_code 1 = .ok (.ifCond .lt 31, 3) := by decide +kernel
theorem d_Seconds_keyIn_32 : decode prog_9_method_11_code 32 = .ok (.iconst (-1), 1) := by decide +kernel
theorem d_Seconds_keyIn_33 : decode prog_9_method_11_code 33 = .ok (.ireturn, 1) := by decide +kernel
theorem d_Seconds_keyIn_4 : decode prog_9_method_11_code 4 = .ok (.iload_n 1, 1) := by decide +kernel
theorem d_Seconds_keyIn_5 : decode prog_9_method_11_code 5 = .ok (.aload_n 0, 1) := by decide +kernel
theorem d_Seconds_keyIn_6 : decode prog_9_method_11_code 6 = .ok (.getfield 22, 3) := by decide +kernel
theorem d_Seconds_keyIn_9 : decode prog_9_method_11_code 9 = .ok (.if_icmp .ge 23, 3) := by decide +kernel
def m_Seconds_keyIn : mr_T := (⟨"PlainMusic$Seconds", "keyIn", "(II)I"⟩, prog_9_method_11_code, 5, some .int)
theorem l_PM_183 : ml_OK "PlainMusic" 183 ⟨"PlainMusic$Seconds", "keyIn", "(II)I"⟩ := Or.inl (gw_in 1318 (by decide +kernel) (by decide +kernel))
theorem k_Seconds_keyIn : mt_OK m_Seconds_keyIn 2 1 := ⟨(gw_in 1321 (by decide +kernel) (by decide +kernel)), (gw_in 143 (by decide +kernel) (by decide +kernel)), ⟨by decide +kernel, by decide +kernel, by decide +kernel⟩, fun h => absurd h (by decide), fun _ => ⟨(gw_in 1319 (by decide +kernel) (by decide +kernel)), (gw_in 1320 (by decide +kernel) (by decide +kernel))⟩, fun h => absurd h (by decide)⟩
theorem q_I_158_1 : hp_0.2.1 158 1 = 0 := by decide +kernel
theorem d_PM_second_9 : decode prog_1_method_19_code 9 = .ok (.ireturn, 1) := by decide +kernel
def m_PM_second : mr_T := (⟨"PlainMusic", "second", "(II)I"⟩, prog_1_method_19_code, 3, some .int)
theorem d_PM_readings_0 : decode prog_1_method_20_code 0 = .ok (.aload_n 0, 1) := by decide +kernel
theorem d_PM_readings_1 : decode prog_1_method_20_code 1 = .ok (.getfield 27, 3) := by decide +kernel
theorem d_PM_readings_4 : decode prog_1_method_20_code 4 = .ok (.getfield 110, 3) := by decide +kernel
theorem d_PM_readings_7 : decode prog_1_method_20_code 7 = .ok (.ifCond .eq 13, 3) := by decide +kernel
theorem d_PM_readings_20 : decode prog_1_method_20_code 20 = .ok (.bipush (-2), 2) := by decide +kernel
theorem d_PM_readings_22 : decode prog_1_method_20_code 22 = .ok (.ireturn, 1) := by decide +kernel
def m_PM_readings : mr_T := (⟨"PlainMusic", "readings", "()I"⟩, prog_1_method_20_code, 1, some .int)
theorem d_PM_tree_0 : decode prog_1_method_21_code 0 = .ok (.aload_n 0, 1) := by decide +kernel
theorem d_PM_tree_1 : decode prog_1_method_21_code 1 = .ok (.getfield 65, 3) := by decide +kernel
theorem d_PM_tree_4 : decode prog_1_method_21_code 4 = .ok (.aload_n 0, 1) := by decide +kernel
theorem d_PM_tree_5 : decode prog_1_method_21_code 5 = .ok (.getfield 27, 3) := by decide +kernel
theorem d_PM_tree_8 : decode prog_1_method_21_code 8 = .ok (.iload_n 1, 1) := by decide +kernel
theorem d_PM_tree_9 : decode prog_1_method_21_code 9 = .ok (.iload_n 2, 1) := by decide +kernel
theorem d_PM_tree_10 : decode prog_1_method_21_code 10 = .ok (.invokevirtual 188, 3) := by decide +kernel
theorem d_Trees_ruleIn_0 : decode prog_11_method_9_code 0 = .ok (.iload_n 2, 1) := by decide +kernel
theorem d_Trees_ruleIn_1 : decode prog_11_method_9_code 1 = .ok (.ifCond .lt 27, 3) := by decide +kernel
theorem d_Trees_ruleIn_28 : decode prog_11_method_9_code 28 = .ok (.iconst (-1), 1) := by decide +kernel
theorem d_Trees_ruleIn_29 : decode prog_11_method_9_code 29 = .ok (.ireturn, 1) := by decide +kernel
theorem d_Trees_ruleIn_4 : decode prog_11_method_9_code 4 = .ok (.iload_n 2, 1) := by decide +kernel
theorem d_Trees_ruleIn_5 : decode prog_11_method_9_code 5 = .ok (.aload_n 0, 1) := by decide +kernel
theorem d_Trees_ruleIn_6 : decode prog_11_method_9_code 6 = .ok (.getfield 15, 3) := by decide +kernel
theorem d_Trees_ruleIn_9 : decode prog_11_method_9_code 9 = .ok (.if_icmp .ge 19, 3) := by decide +kernel
def m_Trees_ruleIn : mr_T := (⟨"PlainMusic$Trees", "ruleIn", "(LPlainMusic$Score;II)I"⟩, prog_11_method_9_code, 10, some .int)
theorem l_PM_188 : ml_OK "PlainMusic" 188 ⟨"PlainMusic$Trees", "ruleIn", "(LPlainMusic$Score;II)I"⟩ := Or.inl (gw_in 1368 (by decide +kernel) (by decide +kernel))
theorem k_Trees_ruleIn : mt_OK m_Trees_ruleIn 3 1 := ⟨(gw_in 1371 (by decide +kernel) (by decide +kernel)), (gw_in 144 (by decide +kernel) (by decide +kernel)), ⟨by decide +kernel, by decide +kernel, by decide +kernel⟩, fun h => absurd h (by decide), fun _ => ⟨(gw_in 1369 (by decide +kernel) (by decide +kernel)), (gw_in 1370 (by decide +kernel) (by decide +kernel))⟩, fun h => absurd h (by decide)⟩
theorem q_I_162_1 : hp_0.2.1 162 1 = 0 := by decide +kernel
theorem d_PM_tree_13 : decode prog_1_method_21_code 13 = .ok (.ireturn, 1) := by decide +kernel
def m_PM_tree : mr_T := (⟨"PlainMusic", "tree", "(II)I"⟩, prog_1_method_21_code, 3, some .int)
theorem d_PM_beside_0 : decode prog_1_method_22_code 0 = .ok (.aload_n 0, 1) := by decide +kernel
theorem d_PM_beside_1 : decode prog_1_method_22_code 1 = .ok (.getfield 27, 3) := by decide +kernel
theorem d_PM_beside_4 : decode prog_1_method_22_code 4 = .ok (.iload_n 1, 1) := by decide +kernel
theorem d_PM_beside_5 : decode prog_1_method_22_code 5 = .ok (.invokevirtual 125, 3) := by decide +kernel
theorem d_PM_beside_8 : decode prog_1_method_22_code 8 = .ok (.astore_n 3, 1) := by decide +kernel
theorem d_PM_beside_9 : decode prog_1_method_22_code 9 = .ok (.aload_n 0, 1) := by decide +kernel
theorem d_PM_beside_10 : decode prog_1_method_22_code 10 = .ok (.getfield 27, 3) := by decide +kernel
theorem d_PM_beside_13 : decode prog_1_method_22_code 13 = .ok (.iload_n 2, 1) := by decide +kernel
theorem d_PM_beside_14 : decode prog_1_method_22_code 14 = .ok (.invokevirtual 125, 3) := by decide +kernel
theorem d_PM_beside_17 : decode prog_1_method_22_code 17 = .ok (.astore 4, 2) := by decide +kernel
theorem d_PM_beside_19 : decode prog_1_method_22_code 19 = .ok (.aload_n 3, 1) := by decide +kernel
theorem d_PM_beside_20 : decode prog_1_method_22_code 20 = .ok (.ifnull 8, 3) := by decide +kernel
theorem d_PM_beside_28 : decode prog_1_method_22_code 28 = .ok (.iconst (-1), 1) := by decide +kernel
theorem d_PM_beside_29 : decode prog_1_method_22_code 29 = .ok (.ireturn, 1) := by decide +kernel
def m_PM_beside : mr_T := (⟨"PlainMusic", "beside", "(II)I"⟩, prog_1_method_22_code, 5, some .int)
theorem d_PM_partner_0 : decode prog_1_method_23_code 0 = .ok (.aload_n 0, 1) := by decide +kernel
theorem d_PM_partner_1 : decode prog_1_method_23_code 1 = .ok (.getfield 72, 3) := by decide +kernel
theorem d_PM_partner_4 : decode prog_1_method_23_code 4 = .ok (.iload_n 1, 1) := by decide +kernel
theorem d_PM_partner_5 : decode prog_1_method_23_code 5 = .ok (.invokevirtual 195, 3) := by decide +kernel
theorem d_Pairing_partnerOf_0 : decode prog_5_method_3_code 0 = .ok (.iload_n 1, 1) := by decide +kernel
theorem d_Pairing_partnerOf_1 : decode prog_5_method_3_code 1 = .ok (.ifCond .lt 29, 3) := by decide +kernel
theorem d_Pairing_partnerOf_30 : decode prog_5_method_3_code 30 = .ok (.iconst (-1), 1) := by decide +kernel
theorem d_Pairing_partnerOf_31 : decode prog_5_method_3_code 31 = .ok (.ireturn, 1) := by decide +kernel
theorem d_Pairing_partnerOf_4 : decode prog_5_method_3_code 4 = .ok (.iload_n 1, 1) := by decide +kernel
theorem d_Pairing_partnerOf_5 : decode prog_5_method_3_code 5 = .ok (.aload_n 0, 1) := by decide +kernel
theorem d_Pairing_partnerOf_6 : decode prog_5_method_3_code 6 = .ok (.getfield 27, 3) := by decide +kernel
theorem d_Pairing_partnerOf_9 : decode prog_5_method_3_code 9 = .ok (.if_icmp .ge 21, 3) := by decide +kernel
def m_Pairing_partnerOf : mr_T := (⟨"PlainMusic$Pairing", "partnerOf", "(I)I"⟩, prog_5_method_3_code, 2, some .int)
theorem l_PM_195 : ml_OK "PlainMusic" 195 ⟨"PlainMusic$Pairing", "partnerOf", "(I)I"⟩ := Or.inl (gw_in 1433 (by decide +kernel) (by decide +kernel))
theorem k_Pairing_partnerOf : mt_OK m_Pairing_partnerOf 1 1 := ⟨(gw_in 1436 (by decide +kernel) (by decide +kernel)), (gw_in 145 (by decide +kernel) (by decide +kernel)), ⟨by decide +kernel, by decide +kernel, by decide +kernel⟩, fun h => absurd h (by decide), fun _ => ⟨(gw_in 1434 (by decide +kernel) (by decide +kernel)), (gw_in 1435 (by decide +kernel) (by decide +kernel))⟩, fun h => absurd h (by decide)⟩
theorem q_I_164_5 : hp_0.2.1 164 5 = 0 := by decide +kernel
theorem d_PM_partner_8 : decode prog_1_method_23_code 8 = .ok (.ireturn, 1) := by decide +kernel
def m_PM_partner : mr_T := (⟨"PlainMusic", "partner", "(I)I"⟩, prog_1_method_23_code, 2, some .int)
theorem d_PM_ways_0 : decode prog_1_method_24_code 0 = .ok (.aload_n 0, 1) := by decide +kernel
theorem d_PM_ways_1 : decode prog_1_method_24_code 1 = .ok (.getfield 72, 3) := by decide +kernel
theorem d_PM_ways_4 : decode prog_1_method_24_code 4 = .ok (.getfield 198, 3) := by decide +kernel
theorem f_PM_198 : fl_OK "PlainMusic" 198 3 7 .int false := ⟨_, rfl, by decide, (gw_in 576 (by decide +kernel) (by decide +kernel)), rfl, rfl⟩
theorem q_I_164_7 : hp_0.2.1 164 7 = 0 := by decide +kernel
theorem d_PM_ways_7 : decode prog_1_method_24_code 7 = .ok (.ireturn, 1) := by decide +kernel
def m_PM_ways : mr_T := (⟨"PlainMusic", "ways", "()I"⟩, prog_1_method_24_code, 1, some .int)
theorem d_PM_sample_0 : decode prog_1_method_25_code 0 = .ok (.dconst 0, 1) := by decide +kernel
theorem d_PM_sample_1 : decode prog_1_method_25_code 1 = .ok (.dstore_n 3, 1) := by decide +kernel
theorem d_PM_sample_2 : decode prog_1_method_25_code 2 = .ok (.iload_n 1, 1) := by decide +kernel
theorem d_PM_sample_3 : decode prog_1_method_25_code 3 = .ok (.ifCond .lt 15, 3) := by decide +kernel
theorem d_PM_sample_18 : decode prog_1_method_25_code 18 = .ok (.dload_n 3, 1) := by decide +kernel
theorem d_PM_sample_19 : decode prog_1_method_25_code 19 = .ok (.dreturn, 1) := by decide +kernel
theorem d_PM_sample_6 : decode prog_1_method_25_code 6 = .ok (.iload_n 2, 1) := by decide +kernel
theorem d_PM_sample_7 : decode prog_1_method_25_code 7 = .ok (.iconst 1, 1) := by decide +kernel
theorem d_PM_sample_8 : decode prog_1_method_25_code 8 = .ok (.if_icmp .lt 10, 3) := by decide +kernel
theorem d_PM_sample_11 : decode prog_1_method_25_code 11 = .ok (.iload_n 2, 1) := by decide +kernel
theorem d_PM_sample_12 : decode prog_1_method_25_code 12 = .ok (.sipush 10000, 3) := by decide +kernel
theorem d_PM_sample_15 : decode prog_1_method_25_code 15 = .ok (.if_icmp .le 5, 3) := by decide +kernel
theorem d_PM_sample_20 : decode prog_1_method_25_code 20 = .ok (.iconst 0, 1) := by decide +kernel
theorem d_PM_sample_21 : decode prog_1_method_25_code 21 = .ok (.istore 5, 2) := by decide +kernel
theorem d_PM_sample_23 : decode prog_1_method_25_code 23 = .ok (.iload 5, 2) := by decide +kernel
theorem d_PM_sample_25 : decode prog_1_method_25_code 25 = .ok (.aload_n 0, 1) := by decide +kernel
theorem d_PM_sample_26 : decode prog_1_method_25_code 26 = .ok (.getfield 27, 3) := by decide +kernel
theorem d_PM_sample_29 : decode prog_1_method_25_code 29 = .ok (.getfield 104, 3) := by decide +kernel
theorem d_PM_sample_32 : decode prog_1_method_25_code 32 = .ok (.if_icmp .ge 34, 3) := by decide +kernel
theorem d_PM_sample_66 : decode prog_1_method_25_code 66 = .ok (.dload_n 3, 1) := by decide +kernel
theorem d_PM_sample_67 : decode prog_1_method_25_code 67 = .ok (.dreturn, 1) := by decide +kernel
def m_PM_sample : mr_T := (⟨"PlainMusic", "sample", "(II)D"⟩, prog_1_method_25_code, 7, some .double)
theorem d_MD_feed_0 : decode prog_14_method_2_code 0 = .ok (.aload_n 0, 1) := by decide +kernel
theorem d_MD_feed_1 : decode prog_14_method_2_code 1 = .ok (.getfield 226, 3) := by decide +kernel
theorem f_MD_226 : fl_OK "PlainMusicModel" 226 12 1 .int false := ⟨_, rfl, by decide, (gw_in 1483 (by decide +kernel) (by decide +kernel)), rfl, rfl⟩
theorem q_s_170 : hp_0.1[170]? = some (12 + 4, 111) := by decide +kernel
theorem q_I_170_1 : hp_0.2.1 170 1 = 0 := by decide +kernel
theorem d_MD_feed_4 : decode prog_14_method_2_code 4 = .ok (.bipush 20, 2) := by decide +kernel
theorem d_MD_feed_6 : decode prog_14_method_2_code 6 = .ok (.iadd, 1) := by decide +kernel
theorem d_MD_feed_7 : decode prog_14_method_2_code 7 = .ok (.sipush 2000, 3) := by decide +kernel
theorem d_MD_feed_10 : decode prog_14_method_2_code 10 = .ok (.if_icmp .le 6, 3) := by decide +kernel
theorem d_MD_feed_16 : decode prog_14_method_2_code 16 = .ok (.aload_n 0, 1) := by decide +kernel
theorem d_MD_feed_17 : decode prog_14_method_2_code 17 = .ok (.iload_n 1, 1) := by decide +kernel
theorem d_MD_feed_18 : decode prog_14_method_2_code 18 = .ok (.invokevirtual 229, 3) := by decide +kernel
theorem d_MD_lay_0 : decode prog_14_method_3_code 0 = .ok (.bipush 24, 2) := by decide +kernel
theorem d_MD_lay_2 : decode prog_14_method_3_code 2 = .ok (.istore_n 2, 1) := by decide +kernel
theorem d_MD_lay_3 : decode prog_14_method_3_code 3 = .ok (.iload_n 2, 1) := by decide +kernel
theorem d_MD_lay_4 : decode prog_14_method_3_code 4 = .ok (.ifCond .lt 35, 3) := by decide +kernel
theorem d_MD_lay_7 : decode prog_14_method_3_code 7 = .ok (.aload_n 0, 1) := by decide +kernel
theorem d_MD_lay_8 : decode prog_14_method_3_code 8 = .ok (.getfield 7, 3) := by decide +kernel
theorem d_MD_lay_11 : decode prog_14_method_3_code 11 = .ok (.aload_n 0, 1) := by decide +kernel
theorem d_MD_lay_12 : decode prog_14_method_3_code 12 = .ok (.getfield 226, 3) := by decide +kernel
theorem d_MD_lay_15 : decode prog_14_method_3_code 15 = .ok (.iload_n 1, 1) := by decide +kernel
theorem d_MD_lay_16 : decode prog_14_method_3_code 16 = .ok (.iload_n 2, 1) := by decide +kernel
theorem d_MD_lay_17 : decode prog_14_method_3_code 17 = .ok (.ishr, 1) := by decide +kernel
theorem d_MD_lay_18 : decode prog_14_method_3_code 18 = .ok (.sipush 255, 3) := by decide +kernel
theorem d_MD_lay_21 : decode prog_14_method_3_code 21 = .ok (.iand, 1) := by decide +kernel
theorem d_MD_lay_22 : decode prog_14_method_3_code 22 = .ok (.iastore, 1) := by decide +kernel
theorem d_MD_lay_23 : decode prog_14_method_3_code 23 = .ok (.aload_n 0, 1) := by decide +kernel
theorem d_MD_lay_24 : decode prog_14_method_3_code 24 = .ok (.dup, 1) := by decide +kernel
theorem d_MD_lay_25 : decode prog_14_method_3_code 25 = .ok (.getfield 226, 3) := by decide +kernel
theorem d_MD_lay_28 : decode prog_14_method_3_code 28 = .ok (.iconst 1, 1) := by decide +kernel
theorem d_MD_lay_29 : decode prog_14_method_3_code 29 = .ok (.iadd, 1) := by decide +kernel
theorem d_MD_lay_30 : decode prog_14_method_3_code 30 = .ok (.putfield 226, 3) := by decide +kernel
theorem d_MD_lay_33 : decode prog_14_method_3_code 33 = .ok (.iinc 2 (-8), 3) := by decide +kernel
theorem d_MD_lay_36 : decode prog_14_method_3_code 36 = .ok (.goto (-33), 3) := by decide +kernel
theorem d_MD_lay_39 : decode prog_14_method_3_code 39 = .ok (.return_, 1) := by decide +kernel
def m_MD_lay : mr_T := (⟨"PlainMusicModel", "lay", "(I)V"⟩, prog_14_method_3_code, 3, none)
theorem l_MD_229 : ml_OK "PlainMusicModel" 229 ⟨"PlainMusicModel", "lay", "(I)V"⟩ := Or.inl (gw_in 1820 (by decide +kernel) (by decide +kernel))
theorem k_MD_lay : mt_OK m_MD_lay 1 1 := ⟨(gw_in 1823 (by decide +kernel) (by decide +kernel)), (gw_in 146 (by decide +kernel) (by decide +kernel)), ⟨by decide +kernel, by decide +kernel, by decide +kernel⟩, fun h => absurd h (by decide), fun _ => ⟨(gw_in 1822 (by decide +kernel) (by decide +kernel)), (gw_in 59 (by decide +kernel) (by decide +kernel))⟩, fun h => absurd h (by decide)⟩
theorem q_R_170_0 : hp_0.2.2.2 170 0 = some 171 := by decide +kernel
theorem q_s_171 : hp_0.1[171]? = some (0, 2000) := by decide +kernel
theorem d_MD_feed_21 : decode prog_14_method_2_code 21 = .ok (.aload_n 0, 1) := by decide +kernel
theorem d_MD_feed_22 : decode prog_14_method_2_code 22 = .ok (.iload_n 2, 1) := by decide +kernel
theorem d_MD_feed_23 : decode prog_14_method_2_code 23 = .ok (.invokevirtual 229, 3) := by decide +kernel
theorem d_MD_feed_26 : decode prog_14_method_2_code 26 = .ok (.aload_n 0, 1) := by decide +kernel
theorem d_MD_feed_27 : decode prog_14_method_2_code 27 = .ok (.iload_n 3, 1) := by decide +kernel
theorem d_MD_feed_28 : decode prog_14_method_2_code 28 = .ok (.invokevirtual 229, 3) := by decide +kernel
theorem d_MD_feed_31 : decode prog_14_method_2_code 31 = .ok (.aload_n 0, 1) := by decide +kernel
theorem d_MD_feed_32 : decode prog_14_method_2_code 32 = .ok (.iload 4, 2) := by decide +kernel
theorem d_MD_feed_34 : decode prog_14_method_2_code 34 = .ok (.invokevirtual 229, 3) := by decide +kernel
theorem d_MD_feed_37 : decode prog_14_method_2_code 37 = .ok (.aload_n 0, 1) := by decide +kernel
theorem d_MD_feed_38 : decode prog_14_method_2_code 38 = .ok (.iload 5, 2) := by decide +kernel
theorem d_MD_feed_40 : decode prog_14_method_2_code 40 = .ok (.invokevirtual 229, 3) := by decide +kernel
theorem d_MD_feed_43 : decode prog_14_method_2_code 43 = .ok (.aload_n 0, 1) := by decide +kernel
theorem d_MD_feed_44 : decode prog_14_method_2_code 44 = .ok (.getfield 226, 3) := by decide +kernel
theorem d_MD_feed_47 : decode prog_14_method_2_code 47 = .ok (.ireturn, 1) := by decide +kernel
def m_MD_feed : mr_T := (⟨"PlainMusicModel", "feed", "(IIIII)I"⟩, prog_14_method_2_code, 6, some .int)
theorem d_MD_cut_0 : decode prog_14_method_4_code 0 = .ok (.iload_n 1, 1) := by decide +kernel
theorem d_MD_cut_1 : decode prog_14_method_4_code 1 = .ok (.ifCond .lt 11, 3) := by decide +kernel
theorem d_MD_cut_12 : decode prog_14_method_4_code 12 = .ok (.iconst (-1), 1) := by decide +kernel
theorem d_MD_cut_13 : decode prog_14_method_4_code 13 = .ok (.ireturn, 1) := by decide +kernel
theorem d_MD_cut_4 : decode prog_14_method_4_code 4 = .ok (.iload_n 1, 1) := by decide +kernel
theorem d_MD_cut_5 : decode prog_14_method_4_code 5 = .ok (.aload_n 0, 1) := by decide +kernel
theorem d_MD_cut_6 : decode prog_14_method_4_code 6 = .ok (.getfield 226, 3) := by decide +kernel
theorem d_MD_cut_9 : decode prog_14_method_4_code 9 = .ok (.if_icmp .le 5, 3) := by decide +kernel
theorem d_MD_cut_14 : decode prog_14_method_4_code 14 = .ok (.aload_n 0, 1) := by decide +kernel
theorem d_MD_cut_15 : decode prog_14_method_4_code 15 = .ok (.dup, 1) := by decide +kernel
theorem d_MD_cut_16 : decode prog_14_method_4_code 16 = .ok (.getfield 226, 3) := by decide +kernel
theorem d_MD_cut_19 : decode prog_14_method_4_code 19 = .ok (.iload_n 1, 1) := by decide +kernel
theorem d_MD_cut_20 : decode prog_14_method_4_code 20 = .ok (.isub, 1) := by decide +kernel
theorem d_MD_cut_21 : decode prog_14_method_4_code 21 = .ok (.putfield 226, 3) := by decide +kernel
theorem d_MD_cut_24 : decode prog_14_method_4_code 24 = .ok (.aload_n 0, 1) := by decide +kernel
theorem d_MD_cut_25 : decode prog_14_method_4_code 25 = .ok (.getfield 226, 3) := by decide +kernel
theorem d_MD_cut_28 : decode prog_14_method_4_code 28 = .ok (.ireturn, 1) := by decide +kernel
def m_MD_cut : mr_T := (⟨"PlainMusicModel", "cut", "(I)I"⟩, prog_14_method_4_code, 2, some .int)
theorem d_MD_score_0 : decode prog_14_method_47_code 0 = .ok (.aload_n 0, 1) := by decide +kernel
theorem d_MD_score_1 : decode prog_14_method_47_code 1 = .ok (.aload_n 0, 1) := by decide +kernel
theorem d_MD_score_2 : decode prog_14_method_47_code 2 = .ok (.getfield 226, 3) := by decide +kernel
theorem d_MD_score_5 : decode prog_14_method_47_code 5 = .ok (.putfield 249, 3) := by decide +kernel
theorem f_MD_249 : fl_OK "PlainMusicModel" 249 12 2 .int false := ⟨_, rfl, by decide, (gw_in 1484 (by decide +kernel) (by decide +kernel)), rfl, rfl⟩
theorem d_MD_score_8 : decode prog_14_method_47_code 8 = .ok (.aload_n 0, 1) := by decide +kernel
theorem d_MD_score_9 : decode prog_14_method_47_code 9 = .ok (.iconst 0, 1) := by decide +kernel
theorem d_MD_score_10 : decode prog_14_method_47_code 10 = .ok (.putfield 226, 3) := by decide +kernel
theorem d_MD_score_13 : decode prog_14_method_47_code 13 = .ok (.aload_n 0, 1) := by decide +kernel
theorem d_MD_score_14 : decode prog_14_method_47_code 14 = .ok (.iconst 0, 1) := by decide +kernel
theorem d_MD_score_15 : decode prog_14_method_47_code 15 = .ok (.putfield 252, 3) := by decide +kernel
theorem f_MD_252 : fl_OK "PlainMusicModel" 252 12 3 .int false := ⟨_, rfl, by decide, (gw_in 1485 (by decide +kernel) (by decide +kernel)), rfl, rfl⟩
theorem d_MD_score_18 : decode prog_14_method_47_code 18 = .ok (.aload_n 0, 1) := by decide +kernel
theorem d_MD_score_19 : decode prog_14_method_47_code 19 = .ok (.iconst 0, 1) := by decide +kernel
theorem d_MD_score_20 : decode prog_14_method_47_code 20 = .ok (.putfield 233, 3) := by decide +kernel
theorem f_MD_233 : fl_OK "PlainMusicModel" 233 12 11 .int false := ⟨_, rfl, by decide, (gw_in 1493 (by decide +kernel) (by decide +kernel)), rfl, rfl⟩
theorem d_MD_score_23 : decode prog_14_method_47_code 23 = .ok (.aload_n 0, 1) := by decide +kernel
theorem d_MD_score_24 : decode prog_14_method_47_code 24 = .ok (.bipush (-2), 2) := by decide +kernel
theorem d_MD_score_26 : decode prog_14_method_47_code 26 = .ok (.putfield 13, 3) := by decide +kernel
theorem d_MD_score_29 : decode prog_14_method_47_code 29 = .ok (.aload_n 0, 1) := by decide +kernel
theorem d_MD_score_30 : decode prog_14_method_47_code 30 = .ok (.invokevirtual 465, 3) := by decide +kernel
theorem d_MD_parse_0 : decode prog_14_method_19_code 0 = .ok (.aload_n 0, 1) := by decide +kernel
theorem d_MD_parse_1 : decode prog_14_method_19_code 1 = .ok (.getfield 17, 3) := by decide +kernel
theorem d_MD_parse_4 : decode prog_14_method_19_code 4 = .ok (.iconst 1, 1) := by decide +kernel
theorem d_MD_parse_5 : decode prog_14_method_19_code 5 = .ok (.iconst 0, 1) := by decide +kernel
theorem d_MD_parse_6 : decode prog_14_method_19_code 6 = .ok (.iastore, 1) := by decide +kernel
theorem d_MD_parse_7 : decode prog_14_method_19_code 7 = .ok (.aload_n 0, 1) := by decide +kernel
theorem d_MD_parse_8 : decode prog_14_method_19_code 8 = .ok (.getfield 20, 3) := by decide +kernel
theorem d_MD_parse_11 : decode prog_14_method_19_code 11 = .ok (.iconst 1, 1) := by decide +kernel
theorem d_MD_parse_12 : decode prog_14_method_19_code 12 = .ok (.iconst 4, 1) := by decide +kernel
theorem d_MD_parse_13 : decode prog_14_method_19_code 13 = .ok (.iastore, 1) := by decide +kernel
theorem d_MD_parse_14 : decode prog_14_method_19_code 14 = .ok (.aload_n 0, 1) := by decide +kernel
theorem d_MD_parse_15 : decode prog_14_method_19_code 15 = .ok (.getfield 23, 3) := by decide +kernel
theorem d_MD_parse_18 : decode prog_14_method_19_code 18 = .ok (.iconst 1, 1) := by decide +kernel
theorem d_MD_parse_19 : decode prog_14_method_19_code 19 = .ok (.iconst 4, 1) := by decide +kernel
theorem d_MD_parse_20 : decode prog_14_method_19_code 20 = .ok (.iastore, 1) := by decide +kernel
theorem d_MD_parse_21 : decode prog_14_method_19_code 21 = .ok (.aload_n 0, 1) := by decide +kernel
theorem d_MD_parse_22 : decode prog_14_method_19_code 22 = .ok (.getfield 26, 3) := by decide +kernel
theorem d_MD_parse_25 : decode prog_14_method_19_code 25 = .ok (.iconst 1, 1) := by decide +kernel
theorem d_MD_parse_26 : decode prog_14_method_19_code 26 = .ok (.iconst 0, 1) := by decide +kernel
theorem d_MD_parse_27 : decode prog_14_method_19_code 27 = .ok (.iastore, 1) := by decide +kernel
theorem d_MD_parse_28 : decode prog_14_method_19_code 28 = .ok (.aload_n 0, 1) := by decide +kernel
theorem d_MD_parse_29 : decode prog_14_method_19_code 29 = .ok (.getfield 32, 3) := by decide +kernel
theorem d_MD_parse_32 : decode prog_14_method_19_code 32 = .ok (.iconst 1, 1) := by decide +kernel
theorem d_MD_parse_33 : decode prog_14_method_19_code 33 = .ok (.iconst 0, 1) := by decide +kernel
theorem d_MD_parse_34 : decode prog_14_method_19_code 34 = .ok (.iastore, 1) := by decide +kernel
theorem d_MD_parse_35 : decode prog_14_method_19_code 35 = .ok (.aload_n 0, 1) := by decide +kernel
theorem d_MD_parse_36 : decode prog_14_method_19_code 36 = .ok (.getfield 44, 3) := by decide +kernel
theorem d_MD_parse_39 : decode prog_14_method_19_code 39 = .ok (.iconst 1, 1) := by decide +kernel
theorem d_MD_parse_40 : decode prog_14_method_19_code 40 = .ok (.iconst 0, 1) := by decide +kernel
theorem d_MD_parse_41 : decode prog_14_method_19_code 41 = .ok (.iastore, 1) := by decide +kernel
theorem d_MD_parse_42 : decode prog_14_method_19_code 42 = .ok (.aload_n 0, 1) := by decide +kernel
theorem d_MD_parse_43 : decode prog_14_method_19_code 43 = .ok (.getfield 50, 3) := by decide +kernel
theorem d_MD_parse_46 : decode prog_14_method_19_code 46 = .ok (.iconst 1, 1) := by decide +kernel
theorem d_MD_parse_47 : decode prog_14_method_19_code 47 = .ok (.iconst 0, 1) := by decide +kernel
theorem d_MD_parse_48 : decode prog_14_method_19_code 48 = .ok (.iastore, 1) := by decide +kernel
theorem d_MD_parse_49 : decode prog_14_method_19_code 49 = .ok (.aload_n 0, 1) := by decide +kernel
theorem d_MD_parse_50 : decode prog_14_method_19_code 50 = .ok (.iconst 0, 1) := by decide +kernel
theorem d_MD_parse_51 : decode prog_14_method_19_code 51 = .ok (.putfield 316, 3) := by decide +kernel
theorem f_MD_316 : fl_OK "PlainMusicModel" 316 12 59 .boolean false := ⟨_, rfl, by decide, (gw_in 1541 (by decide +kernel) (by decide +kernel)), rfl, rfl⟩
theorem d_MD_parse_54 : decode prog_14_method_19_code 54 = .ok (.aload_n 0, 1) := by decide +kernel
theorem d_MD_parse_55 : decode prog_14_method_19_code 55 = .ok (.iconst 0, 1) := by decide +kernel
theorem d_MD_parse_56 : decode prog_14_method_19_code 56 = .ok (.putfield 320, 3) := by decide +kernel
theorem f_MD_320 : fl_OK "PlainMusicModel" 320 12 60 .boolean false := ⟨_, rfl, by decide, (gw_in 1542 (by decide +kernel) (by decide +kernel)), rfl, rfl⟩
theorem d_MD_parse_59 : decode prog_14_method_19_code 59 = .ok (.aload_n 0, 1) := by decide +kernel
theorem d_MD_parse_60 : decode prog_14_method_19_code 60 = .ok (.iconst 0, 1) := by decide +kernel
theorem d_MD_parse_61 : decode prog_14_method_19_code 61 = .ok (.putfield 323, 3) := by decide +kernel
theorem f_MD_323 : fl_OK "PlainMusicModel" 323 12 61 .boolean false := ⟨_, rfl, by decide, (gw_in 1543 (by decide +kernel) (by decide +kernel)), rfl, rfl⟩
theorem d_MD_parse_64 : decode prog_14_method_19_code 64 = .ok (.aload_n 0, 1) := by decide +kernel
theorem d_MD_parse_65 : decode prog_14_method_19_code 65 = .ok (.invokevirtual 309, 3) := by decide +kernel
theorem d_MD_next_0 : decode prog_14_method_10_code 0 = .ok (.iconst 0, 1) := by decide +kernel
theorem d_MD_next_1 : decode prog_14_method_10_code 1 = .ok (.istore_n 1, 1) := by decide +kernel
theorem d_MD_next_2 : decode prog_14_method_10_code 2 = .ok (.aload_n 0, 1) := by decide +kernel
theorem d_MD_next_3 : decode prog_14_method_10_code 3 = .ok (.getfield 252, 3) := by decide +kernel
theorem d_MD_next_6 : decode prog_14_method_10_code 6 = .ok (.aload_n 0, 1) := by decide +kernel
theorem d_MD_next_7 : decode prog_14_method_10_code 7 = .ok (.getfield 249, 3) := by decide +kernel
theorem d_MD_next_10 : decode prog_14_method_10_code 10 = .ok (.if_icmp .ge 128, 3) := by decide +kernel
theorem d_MD_next_138 : decode prog_14_method_10_code 138 = .ok (.aload_n 0, 1) := by decide +kernel
theorem d_MD_next_139 : decode prog_14_method_10_code 139 = .ok (.aload_n 0, 1) := by decide +kernel
theorem d_MD_next_140 : decode prog_14_method_10_code 140 = .ok (.getfield 252, 3) := by decide +kernel
theorem d_MD_next_143 : decode prog_14_method_10_code 143 = .ok (.putfield 242, 3) := by decide +kernel
theorem f_MD_242 : fl_OK "PlainMusicModel" 242 12 5 .int false := ⟨_, rfl, by decide, (gw_in 1487 (by decide +kernel) (by decide +kernel)), rfl, rfl⟩
theorem d_MD_next_146 : decode prog_14_method_10_code 146 = .ok (.aload_n 0, 1) := by decide +kernel
theorem d_MD_next_147 : decode prog_14_method_10_code 147 = .ok (.getfield 252, 3) := by decide +kernel
theorem d_MD_next_150 : decode prog_14_method_10_code 150 = .ok (.aload_n 0, 1) := by decide +kernel
theorem d_MD_next_151 : decode prog_14_method_10_code 151 = .ok (.getfield 249, 3) := by decide +kernel
theorem d_MD_next_154 : decode prog_14_method_10_code 154 = .ok (.if_icmp .ne 10, 3) := by decide +kernel
theorem d_MD_next_157 : decode prog_14_method_10_code 157 = .ok (.aload_n 0, 1) := by decide +kernel
theorem d_MD_next_158 : decode prog_14_method_10_code 158 = .ok (.iconst 0, 1) := by decide +kernel
theorem d_MD_next_159 : decode prog_14_method_10_code 159 = .ok (.putfield 239, 3) := by decide +kernel
theorem f_MD_239 : fl_OK "PlainMusicModel" 239 12 4 .int false := ⟨_, rfl, by decide, (gw_in 1486 (by decide +kernel) (by decide +kernel)), rfl, rfl⟩
theorem d_MD_next_162 : decode prog_14_method_10_code 162 = .ok (.iconst 1, 1) := by decide +kernel
theorem d_MD_next_163 : decode prog_14_method_10_code 163 = .ok (.ireturn, 1) := by decide +kernel
def m_MD_next : mr_T := (⟨"PlainMusicModel", "next", "()Z"⟩, prog_14_method_10_code, 4, some .boolean)
theorem l_MD_309 : ml_OK "PlainMusicModel" 309 ⟨"PlainMusicModel", "next", "()Z"⟩ := Or.inl (gw_in 1836 (by decide +kernel) (by decide +kernel))
theorem k_MD_next : mt_OK m_MD_next 0 1 := ⟨(gw_in 1839 (by decide +kernel) (by decide +kernel)), (gw_in 146 (by decide +kernel) (by decide +kernel)), ⟨by decide +kernel, by decide +kernel, by decide +kernel⟩, fun h => absurd h (by decide), fun _ => ⟨(gw_in 1838 (by decide +kernel) (by decide +kernel)), (gw_in 61 (by decide +kernel) (by decide +kernel))⟩, fun h => absurd h (by decide)⟩
theorem d_MD_parse_68 : decode prog_14_method_19_code 68 = .ok (.pop, 1) := by decide +kernel
theorem d_MD_parse_69 : decode prog_14_method_19_code 69 = .ok (.aload_n 0, 1) := by decide +kernel
theorem d_MD_parse_70 : decode prog_14_method_19_code 70 = .ok (.getfield 239, 3) := by decide +kernel
theorem d_MD_parse_73 : decode prog_14_method_19_code 73 = .ok (.ifCond .eq 97, 3) := by decide +kernel
theorem d_MD_parse_170 : decode prog_14_method_19_code 170 = .ok (.iconst 1, 1) := by decide +kernel
theorem d_MD_parse_171 : decode prog_14_method_19_code 171 = .ok (.ireturn, 1) := by decide +kernel
def m_MD_parse : mr_T := (⟨"PlainMusicModel", "parse", "()Z"⟩, prog_14_method_19_code, 2, some .boolean)
theorem l_MD_465 : ml_OK "PlainMusicModel" 465 ⟨"PlainMusicModel", "parse", "()Z"⟩ := Or.inl (gw_in 1832 (by decide +kernel) (by decide +kernel))
theorem k_MD_parse : mt_OK m_MD_parse 0 1 := ⟨(gw_in 1835 (by decide +kernel) (by decide +kernel)), (gw_in 146 (by decide +kernel) (by decide +kernel)), ⟨by decide +kernel, by decide +kernel, by decide +kernel⟩, fun h => absurd h (by decide), fun _ => ⟨(gw_in 1834 (by decide +kernel) (by decide +kernel)), (gw_in 60 (by decide +kernel) (by decide +kernel))⟩, fun h => absurd h (by decide)⟩
theorem q_R_170_14 : hp_0.2.2.2 170 14 = some 172 := by decide +kernel
theorem q_s_172 : hp_0.1[172]? = some (0, 2) := by decide +kernel
theorem q_R_170_15 : hp_0.2.2.2 170 15 = some 173 := by decide +kernel
theorem q_s_173 : hp_0.1[173]? = some (0, 2) := by decide +kernel
theorem q_R_170_16 : hp_0.2.2.2 170 16 = some 174 := by decide +kernel
theorem q_s_174 : hp_0.1[174]? = some (0, 2) := by decide +kernel
theorem q_R_170_17 : hp_0.2.2.2 170 17 = some 175 := by decide +kernel
theorem q_s_175 : hp_0.1[175]? = some (0, 2) := by decide +kernel
theorem q_R_170_19 : hp_0.2.2.2 170 19 = some 177 := by decide +kernel
theorem q_s_177 : hp_0.1[177]? = some (0, 2) := by decide +kernel
theorem q_R_170_23 : hp_0.2.2.2 170 23 = some 181 := by decide +kernel
theorem q_s_181 : hp_0.1[181]? = some (0, 2) := by decide +kernel
theorem q_R_170_25 : hp_0.2.2.2 170 25 = some 183 := by decide +kernel
theorem q_s_183 : hp_0.1[183]? = some (0, 2) := by decide +kernel
theorem d_MD_score_33 : decode prog_14_method_47_code 33 = .ok (.ifCond .ne 19, 3) := by decide +kernel
theorem d_MD_score_52 : decode prog_14_method_47_code 52 = .ok (.aload_n 0, 1) := by decide +kernel
theorem d_MD_score_53 : decode prog_14_method_47_code 53 = .ok (.invokevirtual 468, 3) := by decide +kernel
theorem l_MD_468 : ml_OK "PlainMusicModel" 468 ⟨"PlainMusicModel", "keep", "()V"⟩ := Or.inl (gw_in 1997 (by decide +kernel) (by decide +kernel))
theorem k_MD_keep : mt_OK m_MD_keep 0 1 := ⟨(gw_in 2000 (by decide +kernel) (by decide +kernel)), (gw_in 146 (by decide +kernel) (by decide +kernel)), ⟨by decide +kernel, by decide +kernel, by decide +kernel⟩, fun h => absurd h (by decide), fun _ => ⟨(gw_in 1999 (by decide +kernel) (by decide +kernel)), (gw_in 99 (by decide +kernel) (by decide +kernel))⟩, fun h => absurd h (by decide)⟩
theorem q_s_176 : hp_0.1[176]? = some (0, 16) := by decide +kernel
theorem q_s_178 : hp_0.1[178]? = some (0, 48) := by decide +kernel
theorem q_s_179 : hp_0.1[179]? = some (0, 48) := by decide +kernel
theorem q_s_180 : hp_0.1[180]? = some (0, 48) := by decide +kernel
theorem q_s_182 : hp_0.1[182]? = some (0, 24) := by decide +kernel
theorem q_R_170_18 : hp_0.2.2.2 170 18 = some 176 := by decide +kernel
theorem q_R_170_20 : hp_0.2.2.2 170 20 = some 178 := by decide +kernel
theorem q_R_170_21 : hp_0.2.2.2 170 21 = some 179 := by decide +kernel
theorem q_R_170_22 : hp_0.2.2.2 170 22 = some 180 := by decide +kernel
theorem q_R_170_24 : hp_0.2.2.2 170 24 = some 182 := by decide +kernel
theorem d_MD_score_56 : decode prog_14_method_47_code 56 = .ok (.aload_n 0, 1) := by decide +kernel
theorem d_MD_score_57 : decode prog_14_method_47_code 57 = .ok (.iconst 0, 1) := by decide +kernel
theorem d_MD_score_58 : decode prog_14_method_47_code 58 = .ok (.putfield 471, 3) := by decide +kernel
theorem f_MD_471 : fl_OK "PlainMusicModel" 471 12 80 .int false := ⟨_, rfl, by decide, (gw_in 1562 (by decide +kernel) (by decide +kernel)), rfl, rfl⟩
theorem d_MD_score_61 : decode prog_14_method_47_code 61 = .ok (.aload_n 0, 1) := by decide +kernel
theorem d_MD_score_62 : decode prog_14_method_47_code 62 = .ok (.iconst 0, 1) := by decide +kernel
theorem d_MD_score_63 : decode prog_14_method_47_code 63 = .ok (.putfield 474, 3) := by decide +kernel
theorem f_MD_474 : fl_OK "PlainMusicModel" 474 12 85 .int false := ⟨_, rfl, by decide, (gw_in 1567 (by decide +kernel) (by decide +kernel)), rfl, rfl⟩
theorem d_MD_score_66 : decode prog_14_method_47_code 66 = .ok (.aload_n 0, 1) := by decide +kernel
theorem d_MD_score_67 : decode prog_14_method_47_code 67 = .ok (.iconst 0, 1) := by decide +kernel
theorem d_MD_score_68 : decode prog_14_method_47_code 68 = .ok (.putfield 477, 3) := by decide +kernel
theorem f_MD_477 : fl_OK "PlainMusicModel" 477 12 89 .int false := ⟨_, rfl, by decide, (gw_in 1571 (by decide +kernel) (by decide +kernel)), rfl, rfl⟩
theorem d_MD_score_71 : decode prog_14_method_47_code 71 = .ok (.aload_n 0, 1) := by decide +kernel
theorem d_MD_score_72 : decode prog_14_method_47_code 72 = .ok (.iconst 0, 1) := by decide +kernel
theorem d_MD_score_73 : decode prog_14_method_47_code 73 = .ok (.putfield 480, 3) := by decide +kernel
theorem f_MD_480 : fl_OK "PlainMusicModel" 480 12 91 .int false := ⟨_, rfl, by decide, (gw_in 1573 (by decide +kernel) (by decide +kernel)), rfl, rfl⟩
theorem d_MD_score_76 : decode prog_14_method_47_code 76 = .ok (.aload_n 0, 1) := by decide +kernel
theorem d_MD_score_77 : decode prog_14_method_47_code 77 = .ok (.iconst 0, 1) := by decide +kernel
theorem d_MD_score_78 : decode prog_14_method_47_code 78 = .ok (.putfield 483, 3) := by decide +kernel
theorem f_MD_483 : fl_OK "PlainMusicModel" 483 12 98 .int false := ⟨_, rfl, by decide, (gw_in 1580 (by decide +kernel) (by decide +kernel)), rfl, rfl⟩
theorem d_MD_score_81 : decode prog_14_method_47_code 81 = .ok (.aload_n 0, 1) := by decide +kernel
theorem d_MD_score_82 : decode prog_14_method_47_code 82 = .ok (.iconst 0, 1) := by decide +kernel
theorem d_MD_score_83 : decode prog_14_method_47_code 83 = .ok (.putfield 486, 3) := by decide +kernel
theorem f_MD_486 : fl_OK "PlainMusicModel" 486 12 104 .int false := ⟨_, rfl, by decide, (gw_in 1586 (by decide +kernel) (by decide +kernel)), rfl, rfl⟩
theorem d_MD_score_86 : decode prog_14_method_47_code 86 = .ok (.aload_n 0, 1) := by decide +kernel
theorem d_MD_score_87 : decode prog_14_method_47_code 87 = .ok (.iconst 0, 1) := by decide +kernel
theorem d_MD_score_88 : decode prog_14_method_47_code 88 = .ok (.putfield 489, 3) := by decide +kernel
theorem f_MD_489 : fl_OK "PlainMusicModel" 489 12 105 .int false := ⟨_, rfl, by decide, (gw_in 1587 (by decide +kernel) (by decide +kernel)), rfl, rfl⟩
theorem d_MD_score_91 : decode prog_14_method_47_code 91 = .ok (.iconst 0, 1) := by decide +kernel
theorem d_MD_score_92 : decode prog_14_method_47_code 92 = .ok (.istore_n 1, 1) := by decide +kernel
theorem d_MD_score_93 : decode prog_14_method_47_code 93 = .ok (.iconst 0, 1) := by decide +kernel
theorem d_MD_score_94 : decode prog_14_method_47_code 94 = .ok (.istore_n 2, 1) := by decide +kernel
theorem d_MD_score_95 : decode prog_14_method_47_code 95 = .ok (.iload_n 2, 1) := by decide +kernel
theorem d_MD_score_96 : decode prog_14_method_47_code 96 = .ok (.aload_n 0, 1) := by decide +kernel
theorem d_MD_score_97 : decode prog_14_method_47_code 97 = .ok (.getfield 17, 3) := by decide +kernel
theorem d_MD_score_100 : decode prog_14_method_47_code 100 = .ok (.iconst 0, 1) := by decide +kernel
theorem d_MD_score_101 : decode prog_14_method_47_code 101 = .ok (.iaload, 1) := by decide +kernel
theorem d_MD_score_102 : decode prog_14_method_47_code 102 = .ok (.if_icmp .ge 18, 3) := by decide +kernel
theorem d_MD_score_120 : decode prog_14_method_47_code 120 = .ok (.iload_n 1, 1) := by decide +kernel
theorem d_MD_score_121 : decode prog_14_method_47_code 121 = .ok (.ireturn, 1) := by decide +kernel
def m_MD_score : mr_T := (⟨"PlainMusicModel", "score", "()I"⟩, prog_14_method_47_code, 3, some .int)
theorem d_MD_place_0 : decode prog_14_method_48_code 0 = .ok (.aload_n 0, 1) := by decide +kernel
theorem d_MD_place_1 : decode prog_14_method_48_code 1 = .ok (.getfield 13, 3) := by decide +kernel
theorem q_I_170_13 : hp_0.2.1 170 13 = (-2) := by decide +kernel
theorem d_MD_place_4 : decode prog_14_method_48_code 4 = .ok (.ireturn, 1) := by decide +kernel
def m_MD_place : mr_T := (⟨"PlainMusicModel", "place", "()I"⟩, prog_14_method_48_code, 1, some .int)
theorem d_MD_told_0 : decode prog_14_method_50_code 0 = .ok (.iload_n 1, 1) := by decide +kernel
theorem d_MD_told_1 : decode prog_14_method_50_code 1 = .ok (.tableswitch 116 0 6 #[43, 50, 57, 64, 71, 76, 96], 43) := by decide +kernel
theorem d_MD_told_117 : decode prog_14_method_50_code 117 = .ok (.iconst (-1), 1) := by decide +kernel
theorem d_MD_told_118 : decode prog_14_method_50_code 118 = .ok (.ireturn, 1) := by decide +kernel
theorem d_MD_told_44 : decode prog_14_method_50_code 44 = .ok (.aload_n 0, 1) := by decide +kernel
theorem d_MD_told_45 : decode prog_14_method_50_code 45 = .ok (.getfield 17, 3) := by decide +kernel
theorem d_MD_told_48 : decode prog_14_method_50_code 48 = .ok (.iconst 0, 1) := by decide +kernel
theorem d_MD_told_49 : decode prog_14_method_50_code 49 = .ok (.iaload, 1) := by decide +kernel
theorem q_I_172_0 : hp_0.2.1 172 0 = 0 := by decide +kernel
theorem d_MD_told_50 : decode prog_14_method_50_code 50 = .ok (.ireturn, 1) := by decide +kernel
theorem d_MD_told_51 : decode prog_14_method_50_code 51 = .ok (.aload_n 0, 1) := by decide +kernel
theorem d_MD_told_52 : decode prog_14_method_50_code 52 = .ok (.getfield 26, 3) := by decide +kernel
theorem d_MD_told_55 : decode prog_14_method_50_code 55 = .ok (.iconst 0, 1) := by decide +kernel
theorem d_MD_told_56 : decode prog_14_method_50_code 56 = .ok (.iaload, 1) := by decide +kernel
theorem q_I_175_0 : hp_0.2.1 175 0 = 0 := by decide +kernel
theorem d_MD_told_57 : decode prog_14_method_50_code 57 = .ok (.ireturn, 1) := by decide +kernel
theorem d_MD_told_58 : decode prog_14_method_50_code 58 = .ok (.aload_n 0, 1) := by decide +kernel
theorem d_MD_told_59 : decode prog_14_method_50_code 59 = .ok (.getfield 32, 3) := by decide +kernel
theorem d_MD_told_62 : decode prog_14_method_50_code 62 = .ok (.iconst 0, 1) := by decide +kernel
theorem d_MD_told_63 : decode prog_14_method_50_code 63 = .ok (.iaload, 1) := by decide +kernel
theorem q_I_177_0 : hp_0.2.1 177 0 = 0 := by decide +kernel
theorem d_MD_told_64 : decode prog_14_method_50_code 64 = .ok (.ireturn, 1) := by decide +kernel
theorem d_MD_told_65 : decode prog_14_method_50_code 65 = .ok (.aload_n 0, 1) := by decide +kernel
theorem d_MD_told_66 : decode prog_14_method_50_code 66 = .ok (.getfield 44, 3) := by decide +kernel
theorem d_MD_told_69 : decode prog_14_method_50_code 69 = .ok (.iconst 0, 1) := by decide +kernel
theorem d_MD_told_70 : decode prog_14_method_50_code 70 = .ok (.iaload, 1) := by decide +kernel
theorem q_I_181_0 : hp_0.2.1 181 0 = 0 := by decide +kernel
theorem d_MD_told_71 : decode prog_14_method_50_code 71 = .ok (.ireturn, 1) := by decide +kernel
theorem d_MD_told_72 : decode prog_14_method_50_code 72 = .ok (.aload_n 0, 1) := by decide +kernel
theorem d_MD_told_73 : decode prog_14_method_50_code 73 = .ok (.invokevirtual 492, 3) := by decide +kernel
theorem d_MD_pageBars_0 : decode prog_14_method_49_code 0 = .ok (.iconst 0, 1) := by decide +kernel
theorem d_MD_pageBars_1 : decode prog_14_method_49_code 1 = .ok (.istore_n 1, 1) := by decide +kernel
theorem d_MD_pageBars_2 : decode prog_14_method_49_code 2 = .ok (.iconst 0, 1) := by decide +kernel
theorem d_MD_pageBars_3 : decode prog_14_method_49_code 3 = .ok (.istore_n 2, 1) := by decide +kernel
theorem d_MD_pageBars_4 : decode prog_14_method_49_code 4 = .ok (.iload_n 2, 1) := by decide +kernel
theorem d_MD_pageBars_5 : decode prog_14_method_49_code 5 = .ok (.aload_n 0, 1) := by decide +kernel
theorem d_MD_pageBars_6 : decode prog_14_method_49_code 6 = .ok (.getfield 17, 3) := by decide +kernel
theorem d_MD_pageBars_9 : decode prog_14_method_49_code 9 = .ok (.iconst 0, 1) := by decide +kernel
theorem d_MD_pageBars_10 : decode prog_14_method_49_code 10 = .ok (.iaload, 1) := by decide +kernel
theorem d_MD_pageBars_11 : decode prog_14_method_49_code 11 = .ok (.if_icmp .ge 30, 3) := by decide +kernel
theorem d_MD_pageBars_41 : decode prog_14_method_49_code 41 = .ok (.iload_n 1, 1) := by decide +kernel
theorem d_MD_pageBars_42 : decode prog_14_method_49_code 42 = .ok (.ireturn, 1) := by decide +kernel
def m_MD_pageBars : mr_T := (⟨"PlainMusicModel", "pageBars", "()I"⟩, prog_14_method_49_code, 3, some .int)
theorem l_MD_492 : ml_OK "PlainMusicModel" 492 ⟨"PlainMusicModel", "pageBars", "()I"⟩ := Or.inl (gw_in 2013 (by decide +kernel) (by decide +kernel))
theorem k_MD_pageBars : mt_OK m_MD_pageBars 0 1 := ⟨(gw_in 2016 (by decide +kernel) (by decide +kernel)), (gw_in 146 (by decide +kernel) (by decide +kernel)), ⟨by decide +kernel, by decide +kernel, by decide +kernel⟩, fun h => absurd h (by decide), fun _ => ⟨(gw_in 2015 (by decide +kernel) (by decide +kernel)), (gw_in 101 (by decide +kernel) (by decide +kernel))⟩, fun h => absurd h (by decide)⟩
theorem d_MD_told_76 : decode prog_14_method_50_code 76 = .ok (.ireturn, 1) := by decide +kernel
theorem d_MD_told_77 : decode prog_14_method_50_code 77 = .ok (.aload_n 0, 1) := by decide +kernel
theorem d_MD_told_78 : decode prog_14_method_50_code 78 = .ok (.getfield 20, 3) := by decide +kernel
theorem d_MD_told_81 : decode prog_14_method_50_code 81 = .ok (.iconst 0, 1) := by decide +kernel
theorem d_MD_told_82 : decode prog_14_method_50_code 82 = .ok (.iaload, 1) := by decide +kernel
theorem q_I_173_0 : hp_0.2.1 173 0 = 0 := by decide +kernel
theorem d_MD_told_83 : decode prog_14_method_50_code 83 = .ok (.ifCond .ne 7, 3) := by decide +kernel
theorem d_MD_told_86 : decode prog_14_method_50_code 86 = .ok (.iconst 4, 1) := by decide +kernel
theorem d_MD_told_87 : decode prog_14_method_50_code 87 = .ok (.goto 9, 3) := by decide +kernel
theorem d_MD_told_96 : decode prog_14_method_50_code 96 = .ok (.ireturn, 1) := by decide +kernel
theorem d_MD_told_97 : decode prog_14_method_50_code 97 = .ok (.aload_n 0, 1) := by decide +kernel
theorem d_MD_told_98 : decode prog_14_method_50_code 98 = .ok (.getfield 23, 3) := by decide +kernel
theorem d_MD_told_101 : decode prog_14_method_50_code 101 = .ok (.iconst 0, 1) := by decide +kernel
theorem d_MD_told_102 : decode prog_14_method_50_code 102 = .ok (.iaload, 1) := by decide +kernel
theorem q_I_174_0 : hp_0.2.1 174 0 = 0 := by decide +kernel
theorem d_MD_told_103 : decode prog_14_method_50_code 103 = .ok (.ifCond .ne 7, 3) := by decide +kernel
theorem d_MD_told_106 : decode prog_14_method_50_code 106 = .ok (.iconst 4, 1) := by decide +kernel
theorem d_MD_told_107 : decode prog_14_method_50_code 107 = .ok (.goto 9, 3) := by decide +kernel
theorem d_MD_told_116 : decode prog_14_method_50_code 116 = .ok (.ireturn, 1) := by decide +kernel
def m_MD_told : mr_T := (⟨"PlainMusicModel", "told", "(I)I"⟩, prog_14_method_50_code, 2, some .int)
theorem d_MD_count_0 : decode prog_14_method_52_code 0 = .ok (.aload_n 0, 1) := by decide +kernel
theorem d_MD_count_1 : decode prog_14_method_52_code 1 = .ok (.iload_n 1, 1) := by decide +kernel
theorem d_MD_count_2 : decode prog_14_method_52_code 2 = .ok (.invokevirtual 495, 3) := by decide +kernel
theorem d_MD_isVoice_0 : decode prog_14_method_51_code 0 = .ok (.iload_n 1, 1) := by decide +kernel
theorem d_MD_isVoice_1 : decode prog_14_method_51_code 1 = .ok (.ifCond .lt 17, 3) := by decide +kernel
theorem d_MD_isVoice_18 : decode prog_14_method_51_code 18 = .ok (.iconst 0, 1) := by decide +kernel
theorem d_MD_isVoice_19 : decode prog_14_method_51_code 19 = .ok (.ireturn, 1) := by decide +kernel
theorem d_MD_isVoice_4 : decode prog_14_method_51_code 4 = .ok (.iload_n 1, 1) := by decide +kernel
theorem d_MD_isVoice_5 : decode prog_14_method_51_code 5 = .ok (.aload_n 0, 1) := by decide +kernel
theorem d_MD_isVoice_6 : decode prog_14_method_51_code 6 = .ok (.getfield 17, 3) := by decide +kernel
theorem d_MD_isVoice_9 : decode prog_14_method_51_code 9 = .ok (.iconst 0, 1) := by decide +kernel
theorem d_MD_isVoice_10 : decode prog_14_method_51_code 10 = .ok (.iaload, 1) := by decide +kernel
theorem d_MD_isVoice_11 : decode prog_14_method_51_code 11 = .ok (.if_icmp .ge 7, 3) := by decide +kernel
def m_MD_isVoice : mr_T := (⟨"PlainMusicModel", "isVoice", "(I)Z"⟩, prog_14_method_51_code, 2, some .boolean)
theorem l_MD_495 : ml_OK "PlainMusicModel" 495 ⟨"PlainMusicModel", "isVoice", "(I)Z"⟩ := Or.inl (gw_in 2021 (by decide +kernel) (by decide +kernel))
theorem k_MD_isVoice : mt_OK m_MD_isVoice 1 1 := ⟨(gw_in 2024 (by decide +kernel) (by decide +kernel)), (gw_in 146 (by decide +kernel) (by decide +kernel)), ⟨by decide +kernel, by decide +kernel, by decide +kernel⟩, fun h => absurd h (by decide), fun _ => ⟨(gw_in 2023 (by decide +kernel) (by decide +kernel)), (gw_in 102 (by decide +kernel) (by decide +kernel))⟩, fun h => absurd h (by decide)⟩
theorem d_MD_count_5 : decode prog_14_method_52_code 5 = .ok (.ifCond .eq 12, 3) := by decide +kernel
theorem d_MD_count_17 : decode prog_14_method_52_code 17 = .ok (.iconst (-1), 1) := by decide +kernel
theorem d_MD_count_18 : decode prog_14_method_52_code 18 = .ok (.ireturn, 1) := by decide +kernel
def m_MD_count : mr_T := (⟨"PlainMusicModel", "count", "(II)I"⟩, prog_14_method_52_code, 3, some .int)
theorem d_MD_event_IIIJ_0 : decode prog_14_method_53_code 0 = .ok (.aload_n 0, 1) := by decide +kernel
theorem d_MD_event_IIIJ_1 : decode prog_14_method_53_code 1 = .ok (.iload_n 1, 1) := by decide +kernel
theorem d_MD_event_IIIJ_2 : decode prog_14_method_53_code 2 = .ok (.invokevirtual 495, 3) := by decide +kernel
theorem d_MD_event_IIIJ_5 : decode prog_14_method_53_code 5 = .ok (.ifCond .eq 17, 3) := by decide +kernel
theorem d_MD_event_IIIJ_22 : decode prog_14_method_53_code 22 = .ok (.ldc2_w 498, 3) := by decide +kernel
theorem cst_MD_498 : Cond.constantLong "PlainMusicModel" 498 (Int64.ofInt 10000) ∈ gw := (gw_in 2029 (by decide +kernel) (by decide +kernel))
theorem d_MD_event_IIIJ_25 : decode prog_14_method_53_code 25 = .ok (.lreturn, 1) := by decide +kernel
def m_MD_event_IIIJ : mr_T := (⟨"PlainMusicModel", "event", "(III)J"⟩, prog_14_method_53_code, 5, some .long)
theorem d_MD_judge_0 : decode prog_14_method_59_code 0 = .ok (.aload_n 0, 1) := by decide +kernel
theorem d_MD_judge_1 : decode prog_14_method_59_code 1 = .ok (.iconst 0, 1) := by decide +kernel
theorem d_MD_judge_2 : decode prog_14_method_59_code 2 = .ok (.putfield 471, 3) := by decide +kernel
theorem d_MD_judge_5 : decode prog_14_method_59_code 5 = .ok (.iconst 0, 1) := by decide +kernel
theorem d_MD_judge_6 : decode prog_14_method_59_code 6 = .ok (.istore_n 1, 1) := by decide +kernel
theorem d_MD_judge_7 : decode prog_14_method_59_code 7 = .ok (.iload_n 1, 1) := by decide +kernel
theorem d_MD_judge_8 : decode prog_14_method_59_code 8 = .ok (.aload_n 0, 1) := by decide +kernel
theorem d_MD_judge_9 : decode prog_14_method_59_code 9 = .ok (.getfield 17, 3) := by decide +kernel
theorem d_MD_judge_12 : decode prog_14_method_59_code 12 = .ok (.iconst 0, 1) := by decide +kernel
theorem d_MD_judge_13 : decode prog_14_method_59_code 13 = .ok (.iaload, 1) := by decide +kernel
theorem d_MD_judge_14 : decode prog_14_method_59_code 14 = .ok (.if_icmp .ge 88, 3) := by decide +kernel
theorem d_MD_judge_102 : decode prog_14_method_59_code 102 = .ok (.aload_n 0, 1) := by decide +kernel
theorem d_MD_judge_103 : decode prog_14_method_59_code 103 = .ok (.getfield 471, 3) := by decide +kernel
theorem d_MD_judge_106 : decode prog_14_method_59_code 106 = .ok (.ireturn, 1) := by decide +kernel
def m_MD_judge : mr_T := (⟨"PlainMusicModel", "judge", "()I"⟩, prog_14_method_59_code, 4, some .int)
theorem d_MD_fault_0 : decode prog_14_method_66_code 0 = .ok (.iload_n 1, 1) := by decide +kernel
theorem d_MD_fault_1 : decode prog_14_method_66_code 1 = .ok (.ifCond .lt 20, 3) := by decide +kernel
theorem d_MD_fault_21 : decode prog_14_method_66_code 21 = .ok (.iconst (-1), 1) := by decide +kernel
theorem d_MD_fault_22 : decode prog_14_method_66_code 22 = .ok (.ireturn, 1) := by decide +kernel
theorem d_MD_fault_4 : decode prog_14_method_66_code 4 = .ok (.iload_n 1, 1) := by decide +kernel
theorem d_MD_fault_5 : decode prog_14_method_66_code 5 = .ok (.aload_n 0, 1) := by decide +kernel
theorem d_MD_fault_6 : decode prog_14_method_66_code 6 = .ok (.getfield 471, 3) := by decide +kernel
theorem q_I_170_80 : hp_0.2.1 170 80 = 0 := by decide +kernel
theorem d_MD_fault_9 : decode prog_14_method_66_code 9 = .ok (.if_icmp .ge 12, 3) := by decide +kernel
def m_MD_fault : mr_T := (⟨"PlainMusicModel", "fault", "(II)I"⟩, prog_14_method_66_code, 3, some .int)
theorem d_MD_beam_0 : decode prog_14_method_68_code 0 = .ok (.aload_n 0, 1) := by decide +kernel
theorem d_MD_beam_1 : decode prog_14_method_68_code 1 = .ok (.iload_n 1, 1) := by decide +kernel
theorem d_MD_beam_2 : decode prog_14_method_68_code 2 = .ok (.invokevirtual 495, 3) := by decide +kernel
theorem d_MD_beam_5 : decode prog_14_method_68_code 5 = .ok (.ifCond .eq 17, 3) := by decide +kernel
theorem d_MD_beam_22 : decode prog_14_method_68_code 22 = .ok (.iconst (-1), 1) := by decide +kernel
theorem d_MD_beam_23 : decode prog_14_method_68_code 23 = .ok (.ireturn, 1) := by decide +kernel
def m_MD_beam : mr_T := (⟨"PlainMusicModel", "beam", "(II)I"⟩, prog_14_method_68_code, 9, some .int)
theorem d_MD_group_0 : decode prog_14_method_71_code 0 = .ok (.iload_n 1, 1) := by decide +kernel
theorem d_MD_group_1 : decode prog_14_method_71_code 1 = .ok (.ifCond .lt 20, 3) := by decide +kernel
theorem d_MD_group_21 : decode prog_14_method_71_code 21 = .ok (.iconst 0, 1) := by decide +kernel
theorem d_MD_group_22 : decode prog_14_method_71_code 22 = .ok (.ireturn, 1) := by decide +kernel
theorem d_MD_group_4 : decode prog_14_method_71_code 4 = .ok (.iload_n 1, 1) := by decide +kernel
theorem d_MD_group_5 : decode prog_14_method_71_code 5 = .ok (.aload_n 0, 1) := by decide +kernel
theorem d_MD_group_6 : decode prog_14_method_71_code 6 = .ok (.getfield 474, 3) := by decide +kernel
theorem q_I_170_85 : hp_0.2.1 170 85 = 0 := by decide +kernel
theorem d_MD_group_9 : decode prog_14_method_71_code 9 = .ok (.if_icmp .ge 12, 3) := by decide +kernel
def m_MD_group : mr_T := (⟨"PlainMusicModel", "group", "(I)I"⟩, prog_14_method_71_code, 2, some .int)
theorem d_MD_breaks_0 : decode prog_14_method_74_code 0 = .ok (.iload_n 1, 1) := by decide +kernel
theorem d_MD_breaks_1 : decode prog_14_method_74_code 1 = .ok (.iconst 1, 1) := by decide +kernel
theorem d_MD_breaks_2 : decode prog_14_method_74_code 2 = .ok (.if_icmp .lt 10, 3) := by decide +kernel
theorem d_MD_breaks_12 : decode prog_14_method_74_code 12 = .ok (.iconst (-1), 1) := by decide +kernel
theorem d_MD_breaks_13 : decode prog_14_method_74_code 13 = .ok (.ireturn, 1) := by decide +kernel
theorem d_MD_breaks_5 : decode prog_14_method_74_code 5 = .ok (.iload_n 1, 1) := by decide +kernel
theorem d_MD_breaks_6 : decode prog_14_method_74_code 6 = .ok (.sipush 1000, 3) := by decide +kernel
theorem d_MD_breaks_9 : decode prog_14_method_74_code 9 = .ok (.if_icmp .le 5, 3) := by decide +kernel
theorem d_MD_breaks_14 : decode prog_14_method_74_code 14 = .ok (.aload_n 0, 1) := by decide +kernel
theorem d_MD_breaks_15 : decode prog_14_method_74_code 15 = .ok (.getfield 17, 3) := by decide +kernel
theorem d_MD_breaks_18 : decode prog_14_method_74_code 18 = .ok (.iconst 0, 1) := by decide +kernel
theorem d_MD_breaks_19 : decode prog_14_method_74_code 19 = .ok (.iaload, 1) := by decide +kernel
theorem d_MD_breaks_20 : decode prog_14_method_74_code 20 = .ok (.ifCond .ne 6, 3) := by decide +kernel
theorem d_MD_breaks_23 : decode prog_14_method_74_code 23 = .ok (.bipush (-2), 2) := by decide +kernel
theorem d_MD_breaks_25 : decode prog_14_method_74_code 25 = .ok (.ireturn, 1) := by decide +kernel
def m_MD_breaks : mr_T := (⟨"PlainMusicModel", "breaks", "(I)I"⟩, prog_14_method_74_code, 9, some .int)
theorem d_MD_line_0 : decode prog_14_method_75_code 0 = .ok (.iload_n 1, 1) := by decide +kernel
theorem d_MD_line_1 : decode prog_14_method_75_code 1 = .ok (.ifCond .lt 20, 3) := by decide +kernel
theorem d_MD_line_21 : decode prog_14_method_75_code 21 = .ok (.iconst 0, 1) := by decide +kernel
theorem d_MD_line_22 : decode prog_14_method_75_code 22 = .ok (.ireturn, 1) := by decide +kernel
theorem d_MD_line_4 : decode prog_14_method_75_code 4 = .ok (.iload_n 1, 1) := by decide +kernel
theorem d_MD_line_5 : decode prog_14_method_75_code 5 = .ok (.aload_n 0, 1) := by decide +kernel
theorem d_MD_line_6 : decode prog_14_method_75_code 6 = .ok (.getfield 477, 3) := by decide +kernel
theorem q_I_170_89 : hp_0.2.1 170 89 = 0 := by decide +kernel
theorem d_MD_line_9 : decode prog_14_method_75_code 9 = .ok (.if_icmp .ge 12, 3) := by decide +kernel
def m_MD_line : mr_T := (⟨"PlainMusicModel", "line", "(I)I"⟩, prog_14_method_75_code, 2, some .int)
theorem d_MD_width_0 : decode prog_14_method_72_code 0 = .ok (.iload_n 1, 1) := by decide +kernel
theorem d_MD_width_1 : decode prog_14_method_72_code 1 = .ok (.ifCond .lt 11, 3) := by decide +kernel
theorem d_MD_width_12 : decode prog_14_method_72_code 12 = .ok (.iconst (-1), 1) := by decide +kernel
theorem d_MD_width_13 : decode prog_14_method_72_code 13 = .ok (.ireturn, 1) := by decide +kernel
theorem d_MD_width_4 : decode prog_14_method_72_code 4 = .ok (.iload_n 1, 1) := by decide +kernel
theorem d_MD_width_5 : decode prog_14_method_72_code 5 = .ok (.aload_n 0, 1) := by decide +kernel
theorem d_MD_width_6 : decode prog_14_method_72_code 6 = .ok (.invokevirtual 492, 3) := by decide +kernel
theorem d_MD_width_9 : decode prog_14_method_72_code 9 = .ok (.if_icmp .lt 5, 3) := by decide +kernel
def m_MD_width : mr_T := (⟨"PlainMusicModel", "width", "(I)I"⟩, prog_14_method_72_code, 7, some .int)
theorem d_MD_lines_0 : decode prog_14_method_80_code 0 = .ok (.iload_n 1, 1) := by decide +kernel
theorem d_MD_lines_1 : decode prog_14_method_80_code 1 = .ok (.ifCond .lt 25, 3) := by decide +kernel
theorem d_MD_lines_26 : decode prog_14_method_80_code 26 = .ok (.iconst (-1), 1) := by decide +kernel
theorem d_MD_lines_27 : decode prog_14_method_80_code 27 = .ok (.ireturn, 1) := by decide +kernel
theorem d_MD_lines_4 : decode prog_14_method_80_code 4 = .ok (.iload_n 2, 1) := by decide +kernel
theorem d_MD_lines_5 : decode prog_14_method_80_code 5 = .ok (.bipush 120, 2) := by decide +kernel
theorem d_MD_lines_7 : decode prog_14_method_80_code 7 = .ok (.if_icmp .gt 19, 3) := by decide +kernel
theorem d_MD_lines_10 : decode prog_14_method_80_code 10 = .ok (.iload_n 1, 1) := by decide +kernel
theorem d_MD_lines_11 : decode prog_14_method_80_code 11 = .ok (.iload_n 2, 1) := by decide +kernel
theorem d_MD_lines_12 : decode prog_14_method_80_code 12 = .ok (.if_icmp .gt 14, 3) := by decide +kernel
theorem d_MD_lines_15 : decode prog_14_method_80_code 15 = .ok (.iload_n 3, 1) := by decide +kernel
theorem d_MD_lines_16 : decode prog_14_method_80_code 16 = .ok (.ifCond .lt 10, 3) := by decide +kernel
theorem d_MD_lines_19 : decode prog_14_method_80_code 19 = .ok (.iload_n 3, 1) := by decide +kernel
theorem d_MD_lines_20 : decode prog_14_method_80_code 20 = .ok (.sipush 511, 3) := by decide +kernel
theorem d_MD_lines_23 : decode prog_14_method_80_code 23 = .ok (.if_icmp .le 5, 3) := by decide +kernel
theorem d_MD_lines_28 : decode prog_14_method_80_code 28 = .ok (.aload_n 0, 1) := by decide +kernel
theorem d_MD_lines_29 : decode prog_14_method_80_code 29 = .ok (.getfield 26, 3) := by decide +kernel
theorem d_MD_lines_32 : decode prog_14_method_80_code 32 = .ok (.iconst 0, 1) := by decide +kernel
theorem d_MD_lines_33 : decode prog_14_method_80_code 33 = .ok (.iaload, 1) := by decide +kernel
theorem d_MD_lines_34 : decode prog_14_method_80_code 34 = .ok (.ifCond .ne 6, 3) := by decide +kernel
theorem d_MD_lines_37 : decode prog_14_method_80_code 37 = .ok (.bipush (-2), 2) := by decide +kernel
theorem d_MD_lines_39 : decode prog_14_method_80_code 39 = .ok (.ireturn, 1) := by decide +kernel
def m_MD_lines : mr_T := (⟨"PlainMusicModel", "lines", "(III)I"⟩, prog_14_method_80_code, 7, some .int)
theorem d_MD_second_0 : decode prog_14_method_81_code 0 = .ok (.iload_n 1, 1) := by decide +kernel
theorem d_MD_second_1 : decode prog_14_method_81_code 1 = .ok (.ifCond .lt 23, 3) := by decide +kernel
theorem d_MD_second_24 : decode prog_14_method_81_code 24 = .ok (.iconst (-1), 1) := by decide +kernel
theorem d_MD_second_25 : decode prog_14_method_81_code 25 = .ok (.ireturn, 1) := by decide +kernel
theorem d_MD_second_4 : decode prog_14_method_81_code 4 = .ok (.iload_n 1, 1) := by decide +kernel
theorem d_MD_second_5 : decode prog_14_method_81_code 5 = .ok (.aload_n 0, 1) := by decide +kernel
theorem d_MD_second_6 : decode prog_14_method_81_code 6 = .ok (.getfield 480, 3) := by decide +kernel
theorem q_I_170_91 : hp_0.2.1 170 91 = 0 := by decide +kernel
theorem d_MD_second_9 : decode prog_14_method_81_code 9 = .ok (.if_icmp .ge 15, 3) := by decide +kernel
def m_MD_second : mr_T := (⟨"PlainMusicModel", "second", "(II)I"⟩, prog_14_method_81_code, 4, some .int)
theorem d_MD_readings_0 : decode prog_14_method_85_code 0 = .ok (.aload_n 0, 1) := by decide +kernel
theorem d_MD_readings_1 : decode prog_14_method_85_code 1 = .ok (.getfield 32, 3) := by decide +kernel
theorem d_MD_readings_4 : decode prog_14_method_85_code 4 = .ok (.iconst 0, 1) := by decide +kernel
theorem d_MD_readings_5 : decode prog_14_method_85_code 5 = .ok (.iaload, 1) := by decide +kernel
theorem d_MD_readings_6 : decode prog_14_method_85_code 6 = .ok (.ifCond .eq 12, 3) := by decide +kernel
theorem d_MD_readings_18 : decode prog_14_method_85_code 18 = .ok (.bipush (-2), 2) := by decide +kernel
theorem d_MD_readings_20 : decode prog_14_method_85_code 20 = .ok (.ireturn, 1) := by decide +kernel
def m_MD_readings : mr_T := (⟨"PlainMusicModel", "readings", "()I"⟩, prog_14_method_85_code, 8, some .int)
theorem d_MD_tree_0 : decode prog_14_method_86_code 0 = .ok (.iload_n 1, 1) := by decide +kernel
theorem d_MD_tree_1 : decode prog_14_method_86_code 1 = .ok (.ifCond .lt 15, 3) := by decide +kernel
theorem d_MD_tree_16 : decode prog_14_method_86_code 16 = .ok (.iconst (-1), 1) := by decide +kernel
theorem d_MD_tree_17 : decode prog_14_method_86_code 17 = .ok (.ireturn, 1) := by decide +kernel
theorem d_MD_tree_4 : decode prog_14_method_86_code 4 = .ok (.iload_n 1, 1) := by decide +kernel
theorem d_MD_tree_5 : decode prog_14_method_86_code 5 = .ok (.aload_n 0, 1) := by decide +kernel
theorem d_MD_tree_6 : decode prog_14_method_86_code 6 = .ok (.getfield 483, 3) := by decide +kernel
theorem q_I_170_98 : hp_0.2.1 170 98 = 0 := by decide +kernel
theorem d_MD_tree_9 : decode prog_14_method_86_code 9 = .ok (.if_icmp .ge 7, 3) := by decide +kernel
def m_MD_tree : mr_T := (⟨"PlainMusicModel", "tree", "(II)I"⟩, prog_14_method_86_code, 17, some .int)
theorem d_MD_beside_0 : decode prog_14_method_89_code 0 = .ok (.aload_n 0, 1) := by decide +kernel
theorem d_MD_beside_1 : decode prog_14_method_89_code 1 = .ok (.iload_n 1, 1) := by decide +kernel
theorem d_MD_beside_2 : decode prog_14_method_89_code 2 = .ok (.invokevirtual 495, 3) := by decide +kernel
theorem d_MD_beside_5 : decode prog_14_method_89_code 5 = .ok (.ifCond .eq 11, 3) := by decide +kernel
theorem d_MD_beside_16 : decode prog_14_method_89_code 16 = .ok (.iconst (-1), 1) := by decide +kernel
theorem d_MD_beside_17 : decode prog_14_method_89_code 17 = .ok (.ireturn, 1) := by decide +kernel
def m_MD_beside : mr_T := (⟨"PlainMusicModel", "beside", "(II)I"⟩, prog_14_method_89_code, 8, some .int)
theorem d_MD_partner_0 : decode prog_14_method_91_code 0 = .ok (.iload_n 1, 1) := by decide +kernel
theorem d_MD_partner_1 : decode prog_14_method_91_code 1 = .ok (.ifCond .lt 20, 3) := by decide +kernel
theorem d_MD_partner_21 : decode prog_14_method_91_code 21 = .ok (.iconst (-1), 1) := by decide +kernel
theorem d_MD_partner_22 : decode prog_14_method_91_code 22 = .ok (.ireturn, 1) := by decide +kernel
theorem d_MD_partner_4 : decode prog_14_method_91_code 4 = .ok (.iload_n 1, 1) := by decide +kernel
theorem d_MD_partner_5 : decode prog_14_method_91_code 5 = .ok (.aload_n 0, 1) := by decide +kernel
theorem d_MD_partner_6 : decode prog_14_method_91_code 6 = .ok (.getfield 486, 3) := by decide +kernel
theorem q_I_170_104 : hp_0.2.1 170 104 = 0 := by decide +kernel
theorem d_MD_partner_9 : decode prog_14_method_91_code 9 = .ok (.if_icmp .ge 12, 3) := by decide +kernel
def m_MD_partner : mr_T := (⟨"PlainMusicModel", "partner", "(I)I"⟩, prog_14_method_91_code, 2, some .int)
theorem d_MD_ways_0 : decode prog_14_method_92_code 0 = .ok (.aload_n 0, 1) := by decide +kernel
theorem d_MD_ways_1 : decode prog_14_method_92_code 1 = .ok (.getfield 489, 3) := by decide +kernel
theorem q_I_170_105 : hp_0.2.1 170 105 = 0 := by decide +kernel
theorem d_MD_ways_4 : decode prog_14_method_92_code 4 = .ok (.ireturn, 1) := by decide +kernel
def m_MD_ways : mr_T := (⟨"PlainMusicModel", "ways", "()I"⟩, prog_14_method_92_code, 1, some .int)
theorem d_MD_sample_0 : decode prog_14_method_95_code 0 = .ok (.iload_n 1, 1) := by decide +kernel
theorem d_MD_sample_1 : decode prog_14_method_95_code 1 = .ok (.ifCond .lt 15, 3) := by decide +kernel
theorem d_MD_sample_16 : decode prog_14_method_95_code 16 = .ok (.dconst 0, 1) := by decide +kernel
theorem d_MD_sample_17 : decode prog_14_method_95_code 17 = .ok (.dreturn, 1) := by decide +kernel
theorem d_MD_sample_4 : decode prog_14_method_95_code 4 = .ok (.iload_n 2, 1) := by decide +kernel
theorem d_MD_sample_5 : decode prog_14_method_95_code 5 = .ok (.iconst 1, 1) := by decide +kernel
theorem d_MD_sample_6 : decode prog_14_method_95_code 6 = .ok (.if_icmp .lt 10, 3) := by decide +kernel
theorem d_MD_sample_9 : decode prog_14_method_95_code 9 = .ok (.iload_n 2, 1) := by decide +kernel
theorem d_MD_sample_10 : decode prog_14_method_95_code 10 = .ok (.sipush 10000, 3) := by decide +kernel
theorem d_MD_sample_13 : decode prog_14_method_95_code 13 = .ok (.if_icmp .le 5, 3) := by decide +kernel
theorem d_MD_sample_18 : decode prog_14_method_95_code 18 = .ok (.dconst 0, 1) := by decide +kernel
theorem d_MD_sample_19 : decode prog_14_method_95_code 19 = .ok (.dstore_n 3, 1) := by decide +kernel
theorem d_MD_sample_20 : decode prog_14_method_95_code 20 = .ok (.iconst 0, 1) := by decide +kernel
theorem d_MD_sample_21 : decode prog_14_method_95_code 21 = .ok (.istore 5, 2) := by decide +kernel
theorem d_MD_sample_23 : decode prog_14_method_95_code 23 = .ok (.iload 5, 2) := by decide +kernel
theorem d_MD_sample_25 : decode prog_14_method_95_code 25 = .ok (.aload_n 0, 1) := by decide +kernel
theorem d_MD_sample_26 : decode prog_14_method_95_code 26 = .ok (.getfield 17, 3) := by decide +kernel
theorem d_MD_sample_29 : decode prog_14_method_95_code 29 = .ok (.iconst 0, 1) := by decide +kernel
theorem d_MD_sample_30 : decode prog_14_method_95_code 30 = .ok (.iaload, 1) := by decide +kernel
theorem d_MD_sample_31 : decode prog_14_method_95_code 31 = .ok (.if_icmp .ge 253, 3) := by decide +kernel
theorem d_MD_sample_284 : decode prog_14_method_95_code 284 = .ok (.dload_n 3, 1) := by decide +kernel
theorem d_MD_sample_285 : decode prog_14_method_95_code 285 = .ok (.dreturn, 1) := by decide +kernel
def m_MD_sample : mr_T := (⟨"PlainMusicModel", "sample", "(II)D"⟩, prog_14_method_95_code, 17, some .double)
theorem k_PM_init : mt_OK m_PM_init 0 2 := ⟨(gw_in 159 (by decide +kernel) (by decide +kernel)), (gw_in 134 (by decide +kernel) (by decide +kernel)), ⟨by decide +kernel, by decide +kernel, by decide +kernel⟩, fun h => absurd h (by decide), fun h => absurd h (by decide), fun _ => ⟨(gw_in 158 (by decide +kernel) (by decide +kernel)), rfl, rfl⟩⟩
theorem k_MD_init : mt_OK m_MD_init 0 2 := ⟨(gw_in 1480 (by decide +kernel) (by decide +kernel)), (gw_in 146 (by decide +kernel) (by decide +kernel)), ⟨by decide +kernel, by decide +kernel, by decide +kernel⟩, fun h => absurd h (by decide), fun h => absurd h (by decide), fun _ => ⟨(gw_in 1479 (by decide +kernel) (by decide +kernel)), rfl, rfl⟩⟩
theorem k_PM_feed : mt_OK m_PM_feed 5 1 := ⟨(gw_in 631 (by decide +kernel) (by decide +kernel)), (gw_in 134 (by decide +kernel) (by decide +kernel)), ⟨by decide +kernel, by decide +kernel, by decide +kernel⟩, fun h => absurd h (by decide), fun _ => ⟨(gw_in 629 (by decide +kernel) (by decide +kernel)), (gw_in 630 (by decide +kernel) (by decide +kernel))⟩, fun h => absurd h (by decide)⟩
theorem k_MD_feed : mt_OK m_MD_feed 5 1 := ⟨(gw_in 1819 (by decide +kernel) (by decide +kernel)), (gw_in 146 (by decide +kernel) (by decide +kernel)), ⟨by decide +kernel, by decide +kernel, by decide +kernel⟩, fun h => absurd h (by decide), fun _ => ⟨(gw_in 1817 (by decide +kernel) (by decide +kernel)), (gw_in 1818 (by decide +kernel) (by decide +kernel))⟩, fun h => absurd h (by decide)⟩
theorem k_PM_cut : mt_OK m_PM_cut 1 1 := ⟨(gw_in 639 (by decide +kernel) (by decide +kernel)), (gw_in 134 (by decide +kernel) (by decide +kernel)), ⟨by decide +kernel, by decide +kernel, by decide +kernel⟩, fun h => absurd h (by decide), fun _ => ⟨(gw_in 637 (by decide +kernel) (by decide +kernel)), (gw_in 638 (by decide +kernel) (by decide +kernel))⟩, fun h => absurd h (by decide)⟩
theorem k_MD_cut : mt_OK m_MD_cut 1 1 := ⟨(gw_in 1827 (by decide +kernel) (by decide +kernel)), (gw_in 146 (by decide +kernel) (by decide +kernel)), ⟨by decide +kernel, by decide +kernel, by decide +kernel⟩, fun h => absurd h (by decide), fun _ => ⟨(gw_in 1825 (by decide +kernel) (by decide +kernel)), (gw_in 1826 (by decide +kernel) (by decide +kernel))⟩, fun h => absurd h (by decide)⟩
theorem k_PM_score : mt_OK m_PM_score 0 1 := ⟨(gw_in 643 (by decide +kernel) (by decide +kernel)), (gw_in 134 (by decide +kernel) (by decide +kernel)), ⟨by decide +kernel, by decide +kernel, by decide +kernel⟩, fun h => absurd h (by decide), fun _ => ⟨(gw_in 641 (by decide +kernel) (by decide +kernel)), (gw_in 642 (by decide +kernel) (by decide +kernel))⟩, fun h => absurd h (by decide)⟩
theorem k_MD_score : mt_OK m_MD_score 0 1 := ⟨(gw_in 1831 (by decide +kernel) (by decide +kernel)), (gw_in 146 (by decide +kernel) (by decide +kernel)), ⟨by decide +kernel, by decide +kernel, by decide +kernel⟩, fun h => absurd h (by decide), fun _ => ⟨(gw_in 1829 (by decide +kernel) (by decide +kernel)), (gw_in 1830 (by decide +kernel) (by decide +kernel))⟩, fun h => absurd h (by decide)⟩
theorem k_PM_place : mt_OK m_PM_place 0 1 := ⟨(gw_in 1023 (by decide +kernel) (by decide +kernel)), (gw_in 134 (by decide +kernel) (by decide +kernel)), ⟨by decide +kernel, by decide +kernel, by decide +kernel⟩, fun h => absurd h (by decide), fun _ => ⟨(gw_in 1021 (by decide +kernel) (by decide +kernel)), (gw_in 1022 (by decide +kernel) (by decide +kernel))⟩, fun h => absurd h (by decide)⟩
theorem k_MD_place : mt_OK m_MD_place 0 1 := ⟨(gw_in 2008 (by decide +kernel) (by decide +kernel)), (gw_in 146 (by decide +kernel) (by decide +kernel)), ⟨by decide +kernel, by decide +kernel, by decide +kernel⟩, fun h => absurd h (by decide), fun _ => ⟨(gw_in 2006 (by decide +kernel) (by decide +kernel)), (gw_in 2007 (by decide +kernel) (by decide +kernel))⟩, fun h => absurd h (by decide)⟩
theorem k_PM_told : mt_OK m_PM_told 1 1 := ⟨(gw_in 1027 (by decide +kernel) (by decide +kernel)), (gw_in 134 (by decide +kernel) (by decide +kernel)), ⟨by decide +kernel, by decide +kernel, by decide +kernel⟩, fun h => absurd h (by decide), fun _ => ⟨(gw_in 1025 (by decide +kernel) (by decide +kernel)), (gw_in 1026 (by decide +kernel) (by decide +kernel))⟩, fun h => absurd h (by decide)⟩
theorem k_MD_told : mt_OK m_MD_told 1 1 := ⟨(gw_in 2012 (by decide +kernel) (by decide +kernel)), (gw_in 146 (by decide +kernel) (by decide +kernel)), ⟨by decide +kernel, by decide +kernel, by decide +kernel⟩, fun h => absurd h (by decide), fun _ => ⟨(gw_in 2010 (by decide +kernel) (by decide +kernel)), (gw_in 2011 (by decide +kernel) (by decide +kernel))⟩, fun h => absurd h (by decide)⟩
theorem k_PM_count : mt_OK m_PM_count 2 1 := ⟨(gw_in 1036 (by decide +kernel) (by decide +kernel)), (gw_in 134 (by decide +kernel) (by decide +kernel)), ⟨by decide +kernel, by decide +kernel, by decide +kernel⟩, fun h => absurd h (by decide), fun _ => ⟨(gw_in 1034 (by decide +kernel) (by decide +kernel)), (gw_in 1035 (by decide +kernel) (by decide +kernel))⟩, fun h => absurd h (by decide)⟩
theorem k_MD_count : mt_OK m_MD_count 2 1 := ⟨(gw_in 2020 (by decide +kernel) (by decide +kernel)), (gw_in 146 (by decide +kernel) (by decide +kernel)), ⟨by decide +kernel, by decide +kernel, by decide +kernel⟩, fun h => absurd h (by decide), fun _ => ⟨(gw_in 2018 (by decide +kernel) (by decide +kernel)), (gw_in 2019 (by decide +kernel) (by decide +kernel))⟩, fun h => absurd h (by decide)⟩
theorem k_PM_event : mt_OK m_PM_event 3 1 := ⟨(gw_in 1041 (by decide +kernel) (by decide +kernel)), (gw_in 134 (by decide +kernel) (by decide +kernel)), ⟨by decide +kernel, by decide +kernel, by decide +kernel⟩, fun h => absurd h (by decide), fun _ => ⟨(gw_in 1039 (by decide +kernel) (by decide +kernel)), (gw_in 1040 (by decide +kernel) (by decide +kernel))⟩, fun h => absurd h (by decide)⟩
theorem k_MD_event_IIIJ : mt_OK m_MD_event_IIIJ 3 1 := ⟨(gw_in 2028 (by decide +kernel) (by decide +kernel)), (gw_in 146 (by decide +kernel) (by decide +kernel)), ⟨by decide +kernel, by decide +kernel, by decide +kernel⟩, fun h => absurd h (by decide), fun _ => ⟨(gw_in 2026 (by decide +kernel) (by decide +kernel)), (gw_in 2027 (by decide +kernel) (by decide +kernel))⟩, fun h => absurd h (by decide)⟩
theorem k_PM_judge : mt_OK m_PM_judge 0 1 := ⟨(gw_in 1075 (by decide +kernel) (by decide +kernel)), (gw_in 134 (by decide +kernel) (by decide +kernel)), ⟨by decide +kernel, by decide +kernel, by decide +kernel⟩, fun h => absurd h (by decide), fun _ => ⟨(gw_in 1073 (by decide +kernel) (by decide +kernel)), (gw_in 1074 (by decide +kernel) (by decide +kernel))⟩, fun h => absurd h (by decide)⟩
theorem k_MD_judge : mt_OK m_MD_judge 0 1 := ⟨(gw_in 2033 (by decide +kernel) (by decide +kernel)), (gw_in 146 (by decide +kernel) (by decide +kernel)), ⟨by decide +kernel, by decide +kernel, by decide +kernel⟩, fun h => absurd h (by decide), fun _ => ⟨(gw_in 2031 (by decide +kernel) (by decide +kernel)), (gw_in 2032 (by decide +kernel) (by decide +kernel))⟩, fun h => absurd h (by decide)⟩
theorem k_PM_fault : mt_OK m_PM_fault 2 1 := ⟨(gw_in 1162 (by decide +kernel) (by decide +kernel)), (gw_in 134 (by decide +kernel) (by decide +kernel)), ⟨by decide +kernel, by decide +kernel, by decide +kernel⟩, fun h => absurd h (by decide), fun _ => ⟨(gw_in 1160 (by decide +kernel) (by decide +kernel)), (gw_in 1161 (by decide +kernel) (by decide +kernel))⟩, fun h => absurd h (by decide)⟩
theorem k_MD_fault : mt_OK m_MD_fault 2 1 := ⟨(gw_in 2085 (by decide +kernel) (by decide +kernel)), (gw_in 146 (by decide +kernel) (by decide +kernel)), ⟨by decide +kernel, by decide +kernel, by decide +kernel⟩, fun h => absurd h (by decide), fun _ => ⟨(gw_in 2083 (by decide +kernel) (by decide +kernel)), (gw_in 2084 (by decide +kernel) (by decide +kernel))⟩, fun h => absurd h (by decide)⟩
theorem k_PM_beam : mt_OK m_PM_beam 2 1 := ⟨(gw_in 1170 (by decide +kernel) (by decide +kernel)), (gw_in 134 (by decide +kernel) (by decide +kernel)), ⟨by decide +kernel, by decide +kernel, by decide +kernel⟩, fun h => absurd h (by decide), fun _ => ⟨(gw_in 1168 (by decide +kernel) (by decide +kernel)), (gw_in 1169 (by decide +kernel) (by decide +kernel))⟩, fun h => absurd h (by decide)⟩
theorem k_MD_beam : mt_OK m_MD_beam 2 1 := ⟨(gw_in 2089 (by decide +kernel) (by decide +kernel)), (gw_in 146 (by decide +kernel) (by decide +kernel)), ⟨by decide +kernel, by decide +kernel, by decide +kernel⟩, fun h => absurd h (by decide), fun _ => ⟨(gw_in 2087 (by decide +kernel) (by decide +kernel)), (gw_in 2088 (by decide +kernel) (by decide +kernel))⟩, fun h => absurd h (by decide)⟩
theorem k_PM_group : mt_OK m_PM_group 1 1 := ⟨(gw_in 1200 (by decide +kernel) (by decide +kernel)), (gw_in 134 (by decide +kernel) (by decide +kernel)), ⟨by decide +kernel, by decide +kernel, by decide +kernel⟩, fun h => absurd h (by decide), fun _ => ⟨(gw_in 1198 (by decide +kernel) (by decide +kernel)), (gw_in 1199 (by decide +kernel) (by decide +kernel))⟩, fun h => absurd h (by decide)⟩
theorem k_MD_group : mt_OK m_MD_group 1 1 := ⟨(gw_in 2105 (by decide +kernel) (by decide +kernel)), (gw_in 146 (by decide +kernel) (by decide +kernel)), ⟨by decide +kernel, by decide +kernel, by decide +kernel⟩, fun h => absurd h (by decide), fun _ => ⟨(gw_in 2103 (by decide +kernel) (by decide +kernel)), (gw_in 2104 (by decide +kernel) (by decide +kernel))⟩, fun h => absurd h (by decide)⟩
theorem k_PM_breaks : mt_OK m_PM_breaks 1 1 := ⟨(gw_in 1208 (by decide +kernel) (by decide +kernel)), (gw_in 134 (by decide +kernel) (by decide +kernel)), ⟨by decide +kernel, by decide +kernel, by decide +kernel⟩, fun h => absurd h (by decide), fun _ => ⟨(gw_in 1206 (by decide +kernel) (by decide +kernel)), (gw_in 1207 (by decide +kernel) (by decide +kernel))⟩, fun h => absurd h (by decide)⟩
theorem k_MD_breaks : mt_OK m_MD_breaks 1 1 := ⟨(gw_in 2117 (by decide +kernel) (by decide +kernel)), (gw_in 146 (by decide +kernel) (by decide +kernel)), ⟨by decide +kernel, by decide +kernel, by decide +kernel⟩, fun h => absurd h (by decide), fun _ => ⟨(gw_in 2115 (by decide +kernel) (by decide +kernel)), (gw_in 2116 (by decide +kernel) (by decide +kernel))⟩, fun h => absurd h (by decide)⟩
theorem k_PM_line : mt_OK m_PM_line 1 1 := ⟨(gw_in 1265 (by decide +kernel) (by decide +kernel)), (gw_in 134 (by decide +kernel) (by decide +kernel)), ⟨by decide +kernel, by decide +kernel, by decide +kernel⟩, fun h => absurd h (by decide), fun _ => ⟨(gw_in 1263 (by decide +kernel) (by decide +kernel)), (gw_in 1264 (by decide +kernel) (by decide +kernel))⟩, fun h => absurd h (by decide)⟩
theorem k_MD_line : mt_OK m_MD_line 1 1 := ⟨(gw_in 2122 (by decide +kernel) (by decide +kernel)), (gw_in 146 (by decide +kernel) (by decide +kernel)), ⟨by decide +kernel, by decide +kernel, by decide +kernel⟩, fun h => absurd h (by decide), fun _ => ⟨(gw_in 2120 (by decide +kernel) (by decide +kernel)), (gw_in 2121 (by decide +kernel) (by decide +kernel))⟩, fun h => absurd h (by decide)⟩
theorem k_PM_width : mt_OK m_PM_width 1 1 := ⟨(gw_in 1273 (by decide +kernel) (by decide +kernel)), (gw_in 134 (by decide +kernel) (by decide +kernel)), ⟨by decide +kernel, by decide +kernel, by decide +kernel⟩, fun h => absurd h (by decide), fun _ => ⟨(gw_in 1271 (by decide +kernel) (by decide +kernel)), (gw_in 1272 (by decide +kernel) (by decide +kernel))⟩, fun h => absurd h (by decide)⟩
theorem k_MD_width : mt_OK m_MD_width 1 1 := ⟨(gw_in 2109 (by decide +kernel) (by decide +kernel)), (gw_in 146 (by decide +kernel) (by decide +kernel)), ⟨by decide +kernel, by decide +kernel, by decide +kernel⟩, fun h => absurd h (by decide), fun _ => ⟨(gw_in 2107 (by decide +kernel) (by decide +kernel)), (gw_in 2108 (by decide +kernel) (by decide +kernel))⟩, fun h => absurd h (by decide)⟩
theorem k_PM_lines : mt_OK m_PM_lines 3 1 := ⟨(gw_in 1278 (by decide +kernel) (by decide +kernel)), (gw_in 134 (by decide +kernel) (by decide +kernel)), ⟨by decide +kernel, by decide +kernel, by decide +kernel⟩, fun h => absurd h (by decide), fun _ => ⟨(gw_in 1276 (by decide +kernel) (by decide +kernel)), (gw_in 1277 (by decide +kernel) (by decide +kernel))⟩, fun h => absurd h (by decide)⟩
theorem k_MD_lines : mt_OK m_MD_lines 3 1 := ⟨(gw_in 2126 (by decide +kernel) (by decide +kernel)), (gw_in 146 (by decide +kernel) (by decide +kernel)), ⟨by decide +kernel, by decide +kernel, by decide +kernel⟩, fun h => absurd h (by decide), fun _ => ⟨(gw_in 2124 (by decide +kernel) (by decide +kernel)), (gw_in 2125 (by decide +kernel) (by decide +kernel))⟩, fun h => absurd h (by decide)⟩
theorem k_PM_second : mt_OK m_PM_second 2 1 := ⟨(gw_in 1317 (by decide +kernel) (by decide +kernel)), (gw_in 134 (by decide +kernel) (by decide +kernel)), ⟨by decide +kernel, by decide +kernel, by decide +kernel⟩, fun h => absurd h (by decide), fun _ => ⟨(gw_in 1315 (by decide +kernel) (by decide +kernel)), (gw_in 1316 (by decide +kernel) (by decide +kernel))⟩, fun h => absurd h (by decide)⟩
theorem k_MD_second : mt_OK m_MD_second 2 1 := ⟨(gw_in 2147 (by decide +kernel) (by decide +kernel)), (gw_in 146 (by decide +kernel) (by decide +kernel)), ⟨by decide +kernel, by decide +kernel, by decide +kernel⟩, fun h => absurd h (by decide), fun _ => ⟨(gw_in 2145 (by decide +kernel) (by decide +kernel)), (gw_in 2146 (by decide +kernel) (by decide +kernel))⟩, fun h => absurd h (by decide)⟩
theorem k_PM_readings : mt_OK m_PM_readings 0 1 := ⟨(gw_in 1335 (by decide +kernel) (by decide +kernel)), (gw_in 134 (by decide +kernel) (by decide +kernel)), ⟨by decide +kernel, by decide +kernel, by decide +kernel⟩, fun h => absurd h (by decide), fun _ => ⟨(gw_in 1333 (by decide +kernel) (by decide +kernel)), (gw_in 1334 (by decide +kernel) (by decide +kernel))⟩, fun h => absurd h (by decide)⟩
theorem k_MD_readings : mt_OK m_MD_readings 0 1 := ⟨(gw_in 2151 (by decide +kernel) (by decide +kernel)), (gw_in 146 (by decide +kernel) (by decide +kernel)), ⟨by decide +kernel, by decide +kernel, by decide +kernel⟩, fun h => absurd h (by decide), fun _ => ⟨(gw_in 2149 (by decide +kernel) (by decide +kernel)), (gw_in 2150 (by decide +kernel) (by decide +kernel))⟩, fun h => absurd h (by decide)⟩
theorem k_PM_tree : mt_OK m_PM_tree 2 1 := ⟨(gw_in 1367 (by decide +kernel) (by decide +kernel)), (gw_in 134 (by decide +kernel) (by decide +kernel)), ⟨by decide +kernel, by decide +kernel, by decide +kernel⟩, fun h => absurd h (by decide), fun _ => ⟨(gw_in 1365 (by decide +kernel) (by decide +kernel)), (gw_in 1366 (by decide +kernel) (by decide +kernel))⟩, fun h => absurd h (by decide)⟩
theorem k_MD_tree : mt_OK m_MD_tree 2 1 := ⟨(gw_in 2168 (by decide +kernel) (by decide +kernel)), (gw_in 146 (by decide +kernel) (by decide +kernel)), ⟨by decide +kernel, by decide +kernel, by decide +kernel⟩, fun h => absurd h (by decide), fun _ => ⟨(gw_in 2166 (by decide +kernel) (by decide +kernel)), (gw_in 2167 (by decide +kernel) (by decide +kernel))⟩, fun h => absurd h (by decide)⟩
theorem k_PM_beside : mt_OK m_PM_beside 2 1 := ⟨(gw_in 1388 (by decide +kernel) (by decide +kernel)), (gw_in 134 (by decide +kernel) (by decide +kernel)), ⟨by decide +kernel, by decide +kernel, by decide +kernel⟩, fun h => absurd h (by decide), fun _ => ⟨(gw_in 1386 (by decide +kernel) (by decide +kernel)), (gw_in 1387 (by decide +kernel) (by decide +kernel))⟩, fun h => absurd h (by decide)⟩
theorem k_MD_beside : mt_OK m_MD_beside 2 1 := ⟨(gw_in 2172 (by decide +kernel) (by decide +kernel)), (gw_in 146 (by decide +kernel) (by decide +kernel)), ⟨by decide +kernel, by decide +kernel, by decide +kernel⟩, fun h => absurd h (by decide), fun _ => ⟨(gw_in 2170 (by decide +kernel) (by decide +kernel)), (gw_in 2171 (by decide +kernel) (by decide +kernel))⟩, fun h => absurd h (by decide)⟩
theorem k_PM_partner : mt_OK m_PM_partner 1 1 := ⟨(gw_in 1432 (by decide +kernel) (by decide +kernel)), (gw_in 134 (by decide +kernel) (by decide +kernel)), ⟨by decide +kernel, by decide +kernel, by decide +kernel⟩, fun h => absurd h (by decide), fun _ => ⟨(gw_in 1430 (by decide +kernel) (by decide +kernel)), (gw_in 1431 (by decide +kernel) (by decide +kernel))⟩, fun h => absurd h (by decide)⟩
theorem k_MD_partner : mt_OK m_MD_partner 1 1 := ⟨(gw_in 2190 (by decide +kernel) (by decide +kernel)), (gw_in 146 (by decide +kernel) (by decide +kernel)), ⟨by decide +kernel, by decide +kernel, by decide +kernel⟩, fun h => absurd h (by decide), fun _ => ⟨(gw_in 2188 (by decide +kernel) (by decide +kernel)), (gw_in 2189 (by decide +kernel) (by decide +kernel))⟩, fun h => absurd h (by decide)⟩
theorem k_PM_ways : mt_OK m_PM_ways 0 1 := ⟨(gw_in 1440 (by decide +kernel) (by decide +kernel)), (gw_in 134 (by decide +kernel) (by decide +kernel)), ⟨by decide +kernel, by decide +kernel, by decide +kernel⟩, fun h => absurd h (by decide), fun _ => ⟨(gw_in 1438 (by decide +kernel) (by decide +kernel)), (gw_in 1439 (by decide +kernel) (by decide +kernel))⟩, fun h => absurd h (by decide)⟩
theorem k_MD_ways : mt_OK m_MD_ways 0 1 := ⟨(gw_in 2194 (by decide +kernel) (by decide +kernel)), (gw_in 146 (by decide +kernel) (by decide +kernel)), ⟨by decide +kernel, by decide +kernel, by decide +kernel⟩, fun h => absurd h (by decide), fun _ => ⟨(gw_in 2192 (by decide +kernel) (by decide +kernel)), (gw_in 2193 (by decide +kernel) (by decide +kernel))⟩, fun h => absurd h (by decide)⟩
theorem k_PM_sample : mt_OK m_PM_sample 2 1 := ⟨(gw_in 1444 (by decide +kernel) (by decide +kernel)), (gw_in 134 (by decide +kernel) (by decide +kernel)), ⟨by decide +kernel, by decide +kernel, by decide +kernel⟩, fun h => absurd h (by decide), fun _ => ⟨(gw_in 1442 (by decide +kernel) (by decide +kernel)), (gw_in 1443 (by decide +kernel) (by decide +kernel))⟩, fun h => absurd h (by decide)⟩
theorem k_MD_sample : mt_OK m_MD_sample 2 1 := ⟨(gw_in 2198 (by decide +kernel) (by decide +kernel)), (gw_in 146 (by decide +kernel) (by decide +kernel)), ⟨by decide +kernel, by decide +kernel, by decide +kernel⟩, fun h => absurd h (by decide), fun _ => ⟨(gw_in 2196 (by decide +kernel) (by decide +kernel)), (gw_in 2197 (by decide +kernel) (by decide +kernel))⟩, fun h => absurd h (by decide)⟩

