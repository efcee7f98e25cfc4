/-! ===== the reference's methods, 380 ===== -/
def m_MD_place : mr_T := (⟨"PlainMusicModel", "place", "()I"⟩, prog_14_method_48_code, 1, some .int)
theorem d_MD_place_0 : decode prog_14_method_48_code 0 = .ok (.aload_n 0, 1) := by decide +kernel
theorem d_MD_place_1 : decode prog_14_method_48_code 1 = .ok (.getfield 13, 3) := by decide +kernel
theorem d_MD_place_4 : decode prog_14_method_48_code 4 = .ok (.ireturn, 1) := by decide +kernel
theorem s_MD_place {G : cx_T} {h : ah_T} (hx : mi h)   : con G 0 0 0 m_MD_place [av_R (some 170)] h (fun r h' => ∃ z, r = some (av_I z) ∧ ((-2147483648) ≤ z ∧ z ≤ 2147483647) ∧ h = h') := by
  refine con_of (L := [some (av_R (some 170))]) (by decide +kernel) (Nat.le_of_ble_eq_true rfl) rfl ?_
  refine A_aload_n 0 d_MD_place_0 rfl rfl ?_
  refine A_getIn (lo := (-2)) (hi := 2000) T_ok d_MD_place_1 f_MD_13 (mi_s hx sf_170) (mi_g hx (by decide) mr_170_13) (fun x1 ex1 _ _ => ?_)
  exact A_iret d_MD_place_4 (by decide) rfl ⟨_, rfl, ⟨by omega, by omega⟩, rfl⟩
