theorem cmp_s {x y : Int} (h : x = y) : cmp_I x y = 0 := by subst h; simp [cmp_I]
section AWL
variable {G : cx_T} {R : Room} {M : mr_T} {cu su pc : Nat} {L : List (Option av_T)} {st : List av_T} {h : ah_T} {Q : Option av_T → ah_T → Prop}
theorem A_dcmpv {x y : UInt64} {op : CmpOp} {z : Int} (hd : decode M.2.1 pc = .ok (.dcmp op, 1)) (hz : (Op.cmpValue (FP.dcmp x y) op).toInt = z) (k : aw G R M cu su (pc + 1) L (av_I z :: st) h Q) : aw G R M cu su pc L (av_D y :: av_D x :: st) h Q := A_dcmp hd (by rw [hz]; exact k)
end AWL
