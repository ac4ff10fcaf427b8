theorem inX0 : ∀ w ∈ u_ws RX0 TX0 1, w ∈ UW := by decide +kernel
theorem inX1 : ∀ w ∈ u_ws RX1 TX1 3, w ∈ UW := by decide +kernel
theorem inX2 : ∀ w ∈ u_ws RX2 TX2 6, w ∈ UW := by decide +kernel
theorem inX3 : ∀ w ∈ u_ws RX3 TX3 7, w ∈ UW := by decide +kernel
theorem inX4 : ∀ w ∈ u_ws RX4 TX4 6, w ∈ UW := by decide +kernel
theorem inX5 : ∀ w ∈ u_ws RX5 TX5 10, w ∈ UW := by decide +kernel
theorem inX6 : ∀ w ∈ u_ws RX6 TX6 30, w ∈ UW := by decide +kernel
