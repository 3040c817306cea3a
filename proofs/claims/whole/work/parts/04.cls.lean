theorem iX0 : ∀ w ∈ u_ws RX0 TX0 7, w ∈ gdt := by
  intro w hw
  refine List.mem_filter.mpr ⟨?_, ?_⟩
  · revert w; decide +kernel
  · revert w; decide +kernel
theorem iX1 : ∀ w ∈ u_ws RX1 TX1 1, w ∈ gdt := by
  intro w hw
  refine List.mem_filter.mpr ⟨?_, ?_⟩
  · revert w; decide +kernel
  · revert w; decide +kernel
theorem iX2 : ∀ w ∈ u_ws RX2 TX2 3, w ∈ gdt := by
  intro w hw
  refine List.mem_filter.mpr ⟨?_, ?_⟩
  · revert w; decide +kernel
  · revert w; decide +kernel
theorem iX3 : ∀ w ∈ u_ws RX3 TX3 7, w ∈ gdt := by
  intro w hw
  refine List.mem_filter.mpr ⟨?_, ?_⟩
  · revert w; decide +kernel
  · revert w; decide +kernel
theorem iX4 : ∀ w ∈ u_ws RX4 TX4 7, w ∈ gdt := by
  intro w hw
  refine List.mem_filter.mpr ⟨?_, ?_⟩
  · revert w; decide +kernel
  · revert w; decide +kernel
theorem iX5 : ∀ w ∈ u_ws RX5 TX5 3, w ∈ gdt := by
  intro w hw
  refine List.mem_filter.mpr ⟨?_, ?_⟩
  · revert w; decide +kernel
  · revert w; decide +kernel
theorem iX6 : ∀ w ∈ u_ws RX6 TX6 3, w ∈ gdt := by
  intro w hw
  refine List.mem_filter.mpr ⟨?_, ?_⟩
  · revert w; decide +kernel
  · revert w; decide +kernel
theorem iX7 : ∀ w ∈ u_ws RX7 TX7 2, w ∈ gdt := by
  intro w hw
  refine List.mem_filter.mpr ⟨?_, ?_⟩
  · revert w; decide +kernel
  · revert w; decide +kernel
theorem iX8 : ∀ w ∈ u_ws RX8 TX8 8, w ∈ gdt := by
  intro w hw
  refine List.mem_filter.mpr ⟨?_, ?_⟩
  · revert w; decide +kernel
  · revert w; decide +kernel
theorem iX9 : ∀ w ∈ u_ws RX9 TX9 36, w ∈ gdt := by
  intro w hw
  refine List.mem_filter.mpr ⟨?_, ?_⟩
  · revert w; decide +kernel
  · revert w; decide +kernel
