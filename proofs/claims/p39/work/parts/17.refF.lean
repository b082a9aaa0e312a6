theorem vItem_r {a v : Int} (hv : -9223372036854775808 ≤ v ∧ v ≤ 9223372036854775807) : -9223372036854775808 ≤ vItem a v ∧ vItem a v ≤ 9223372036854775807 := by
  have h1 : -2147483648 ≤ i_b v ∧ i_b v ≤ 2147483647 := xi_r _
  have h2 := ni_r v
  unfold vItem
  (repeat' split) <;> omega
theorem ni_i {z : Int} (h : -2147483648 ≤ z ∧ z ≤ 2147483647) : vi z = vi z := Eq.refl _
