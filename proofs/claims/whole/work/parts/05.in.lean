theorem inX0 : ∀ w ∈ u_ws RX0 TX0 1, w ∈ UW := by decide +kernel
theorem inX2 : ∀ w ∈ u_ws RX2 TX2 6, w ∈ UW := by decide +kernel
