/-! ===== what stands at a place of a list ===== -/
def gat (l : List Int) (i : Int) : Int := if 0 ≤ i ∧ i < (l.length : Int) then l.getD i.toNat 0 else 0
theorem gat_i {l : List Int} {i : Int} (h : 0 ≤ i ∧ i < (l.length : Int)) : ∃ v, l[i.toNat]? = some v ∧ gat l i = v := by
  have hl : i.toNat < l.length := by omega
  refine ⟨l[i.toNat], List.getElem?_eq_getElem hl, ?_⟩
  unfold gat
  rw [if_pos h, List.getD_eq_getElem?_getD, List.getElem?_eq_getElem hl]
  rfl
theorem gat_o {l : List Int} {i : Int} (h : ¬ (0 ≤ i ∧ i < (l.length : Int))) : gat l i = 0 := by unfold gat; exact if_neg h
