/-! The law's words, the classes' and the throws'. -/
set_option maxRecDepth 100000 in
theorem lwx_0 : ∀ w ∈ wsX00, w ∈ lw_tbl := fun w h => by
  have e : wsX00 = ([324, 326, 328, 330, 332, 334, 336, 338, 340, 342] : List Nat).filterMap (fun i => lw_tbl[i]?) := by decide +kernel
  rw [e] at h
  obtain ⟨i, -, hi⟩ := List.mem_filterMap.mp h
  exact List.mem_of_getElem? hi
set_option maxRecDepth 100000 in
theorem lwx_1 : ∀ w ∈ wsX10, w ∈ lw_tbl := fun w h => by
  have e : wsX10 = ([272, 274] : List Nat).filterMap (fun i => lw_tbl[i]?) := by decide +kernel
  rw [e] at h
  obtain ⟨i, -, hi⟩ := List.mem_filterMap.mp h
  exact List.mem_of_getElem? hi
set_option maxRecDepth 100000 in
theorem lwx_2 : ∀ w ∈ wsX20, w ∈ lw_tbl := fun w h => by
  have e : wsX20 = ([244, 246, 248, 250, 252] : List Nat).filterMap (fun i => lw_tbl[i]?) := by decide +kernel
  rw [e] at h
  obtain ⟨i, -, hi⟩ := List.mem_filterMap.mp h
  exact List.mem_of_getElem? hi
set_option maxRecDepth 100000 in
theorem lwx_3 : ∀ w ∈ wsX30, w ∈ lw_tbl := fun w h => by
  have e : wsX30 = ([66, 68] : List Nat).filterMap (fun i => lw_tbl[i]?) := by decide +kernel
  rw [e] at h
  obtain ⟨i, -, hi⟩ := List.mem_filterMap.mp h
  exact List.mem_of_getElem? hi
set_option maxRecDepth 100000 in
theorem lwx_4 : ∀ w ∈ wsX40, w ∈ lw_tbl := fun w h => by
  have e : wsX40 = ([88, 90, 92, 94, 96, 98, 100, 102, 104, 106, 108, 110, 112] : List Nat).filterMap (fun i => lw_tbl[i]?) := by decide +kernel
  rw [e] at h
  obtain ⟨i, -, hi⟩ := List.mem_filterMap.mp h
  exact List.mem_of_getElem? hi
set_option maxRecDepth 100000 in
theorem lwx_5 : ∀ w ∈ wsX50, w ∈ lw_tbl := fun w h => by
  have e : wsX50 = ([716, 718, 720, 722, 724, 726, 728, 730, 732, 734, 736, 738, 740, 742, 744, 746, 748, 750, 752, 754, 756, 758, 760, 762, 764] : List Nat).filterMap (fun i => lw_tbl[i]?) := by decide +kernel
  rw [e] at h
  obtain ⟨i, -, hi⟩ := List.mem_filterMap.mp h
  exact List.mem_of_getElem? hi
theorem wsL_law_in0 : ∀ w ∈ wsL_law0, w ∈ lw_tbl := fun w h => (List.mem_append.mp h).elim (fun h => (List.mem_append.mp h).elim (fun h => (List.mem_append.mp h).elim (fun h => (List.mem_append.mp h).elim (fun h => (List.mem_append.mp h).elim (fun h => (List.mem_append.mp h).elim (fun h => (List.mem_append.mp h).elim (fun h => (List.mem_append.mp h).elim (fun h => lwr_1 w h) (fun h => (List.mem_append.mp h).elim (fun h => lwr_2 w h) (fun h => (List.mem_append.mp h).elim (fun h => lwr_3 w h) (fun h => (List.mem_append.mp h).elim (fun h => lwr_4 w h) (fun h => (List.mem_append.mp h).elim (fun h => lwr_5 w h) (fun h => (List.mem_append.mp h).elim (fun h => lwr_6 w h) (fun h => (List.mem_append.mp h).elim (fun h => lwr_7 w h) (fun h => (List.mem_append.mp h).elim (fun h => lwr_8 w h) (fun h => (List.mem_append.mp h).elim (fun h => lwr_9 w h) (fun h => (List.mem_append.mp h).elim (fun h => lwr_10 w h) (fun h => (List.mem_append.mp h).elim (fun h => lwr_11 w h) (fun h => (List.mem_append.mp h).elim (fun h => lwr_12 w h) (fun h => (List.mem_append.mp h).elim (fun h => lwr_13 w h) (fun h => (List.mem_append.mp h).elim (fun h => lwr_14 w h) (fun h => (List.mem_append.mp h).elim (fun h => lwr_15 w h) (fun h => (List.mem_append.mp h).elim (fun h => lwr_16 w h) (fun h => (List.mem_append.mp h).elim (fun h => lwr_17 w h) (fun h => (List.mem_append.mp h).elim (fun h => lwr_18 w h) (fun h => (List.mem_append.mp h).elim (fun h => lwr_19 w h) (fun h => (List.mem_append.mp h).elim (fun h => lwr_20 w h) (fun h => (List.mem_append.mp h).elim (fun h => lwr_21 w h) (fun h => (List.mem_append.mp h).elim (fun h => lwr_22 w h) (fun h => (List.mem_append.mp h).elim (fun h => lwr_23 w h) (fun h => (List.mem_append.mp h).elim (fun h => lwr_24 w h) (fun h => (List.mem_append.mp h).elim (fun h => lwr_25 w h) (fun h => lwr_26 w h)))))))))))))))))))))))))) (fun h => lwx_4 w h)) (fun h => lwx_5 w h)) (fun h => lwx_3 w h)) (fun h => lwx_2 w h)) (fun h => lwx_1 w h)) (fun h => lwx_0 w h)) (fun h => absurd h List.not_mem_nil)
