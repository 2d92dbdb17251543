section MATH10
theorem cnt_due {N M : Int} {σ : St} (h : Inv N M σ) {d q : Int} (hd : 0 ≤ d ∧ d < 6) (hq : 0 ≤ q ∧ q < 6) : cN (fun j => decide (σ 16 (6 + d) j = q)) (σ 17 (6 + d) 0) = if σ 6 q 0 = 1 ∧ σ 11 q 0 = d then 1 else 0 := by
  have ct := cnt_mem h.W (w := 6 + d) (q := q) (by omega)
  have cq := h.Q d q hd.1 hd.2 hq.1 hq.2
  by_cases c : mem σ (6 + d) q
  · rw [if_pos (cq.mp c)]; exact ct.1 c
  · rw [if_neg (fun z => c (cq.mpr z))]; exact ct.2 c
end MATH10
