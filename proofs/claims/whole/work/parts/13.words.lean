set_option maxRecDepth 100000 in
theorem ow_1 : ∀ w ∈ Bundle.ownAtoms "PlanRows" 119 (xnm 1) xup, w ∈ BW ∨ w ∈ xnW ∨ w ∈ xhW := by decide +kernel
set_option maxRecDepth 100000 in
theorem ow_2 : ∀ w ∈ Bundle.ownAtoms "PlanRows" 224 (xnm 2) xup, w ∈ BW ∨ w ∈ xnW ∨ w ∈ xhW := by decide +kernel
set_option maxRecDepth 100000 in
theorem ow_3 : ∀ w ∈ Bundle.ownAtoms "PlanRows" 105 (xnm 3) xup, w ∈ BW ∨ w ∈ xnW ∨ w ∈ xhW := by decide +kernel
set_option maxRecDepth 100000 in
theorem ow_4 : ∀ w ∈ Bundle.ownAtoms "PlanRows" 231 (xnm 4) xup, w ∈ BW ∨ w ∈ xnW ∨ w ∈ xhW := by decide +kernel
