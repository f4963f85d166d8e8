set_option maxHeartbeats 4000000 in
set_option maxRecDepth 100000 in
theorem S_X1_takeLatest (l : Launch) (a0 : Nat) (M : xv_M) (q : Nat × xv_M) (h : D_X1_takeLatest a0 M = some q) : xv_Met l yX1_takeLatest wsX1_takeLatest rm_X1_takeLatest 0 0 false [xr a0] M (xv_qP false q) := by
  refine xv_enter (cc := cX1_takeLatest) (nL := 1) (ret := (some ((.object "MiddleSpans$State")))) rfl (by decide +kernel) (Nat.le_of_ble_eq_true rfl) h ?_
  intro Y hY0 hl hR hnL hfl hret hnm0
  have hY : xv_ok Y cX1_takeLatest wsX1_takeLatest RX1 := hY0
  have hin1 : ∀ w ∈ u_ws RX1 TX1 2, w ∈ wsX1_takeLatest := fun _ h => List.mem_cons_of_mem _ (List.mem_append_right _ h)
  unfold D_X1_takeLatest
  refine xv_mk (L' := [some (xr a0)]) [true] rfl ?_
  refine xv_aload_n rfl rfl hY dX1_takeLatest_0 rfl ?_
  refine xv_getI (ci := 1) (j := 0) hY dX1_takeLatest_1 rfl rfl rfl (by decide) hin1 (by decide) rfl (List.mem_of_getElem? (i := 1) rfl) (fun v1 => ?_)
  refine xv_iconst hY dX1_takeLatest_4 rfl ?_
  refine xv_icmp_ge (t := 10) hY dX1_takeLatest_5 (by decide) rfl ?_ ?_
  · refine xv_aload_n rfl rfl hY dX1_takeLatest_10 rfl ?_
    refine xv_dupr hY dX1_takeLatest_11 rfl ?_
    refine xv_getI (ci := 1) (j := 0) hY dX1_takeLatest_12 rfl rfl rfl (by decide) hin1 (by decide) rfl (List.mem_of_getElem? (i := 1) rfl) (fun v2 => ?_)
    refine xv_iconst hY dX1_takeLatest_15 rfl ?_
    refine xv_isub hY dX1_takeLatest_16 rfl ?_
    refine xv_putI (ci := 1) (j := 0) hY dX1_takeLatest_17 rfl rfl rfl (by decide) hin1 (by decide) rfl (List.mem_of_getElem? (i := 1) rfl) tyX1_ok nmX1 (Or.inl rfl) rfl (fun M3 => ?_)
    refine xv_aload_n rfl rfl hY dX1_takeLatest_20 rfl ?_
    refine xv_getP (ci := 1) (j := 1) hY dX1_takeLatest_21 rfl rfl rfl (by decide) hin1 (by decide) rfl (List.mem_of_getElem? (i := 2) rfl) (fun v4 => ?_)
    refine xv_aload_n rfl rfl hY dX1_takeLatest_24 rfl ?_
    refine xv_getI (ci := 1) (j := 0) hY dX1_takeLatest_25 rfl rfl rfl (by decide) hin1 (by decide) rfl (List.mem_of_getElem? (i := 1) rfl) (fun v5 => ?_)
    refine xv_aaldS hY dX1_takeLatest_28 rfl (fun v6 => ?_)
    exact xv_aretp hY hfl dX1_takeLatest_29 hret (Or.inl ⟨_, rfl⟩) (Nat.le_of_ble_eq_true rfl) (Nat.le_of_ble_eq_true rfl)
  · refine xv_null hY dX1_takeLatest_8 rfl ?_
    exact xv_aretp hY hfl dX1_takeLatest_9 hret (Or.inl ⟨_, rfl⟩) (Nat.le_of_ble_eq_true rfl) (Nat.le_of_ble_eq_true rfl)
set_option maxHeartbeats 4000000 in
set_option maxRecDepth 100000 in
theorem S_X10_init (l : Launch) (a0 : Nat) (M : xv_M) (q : Unit × xv_M) (h : D_X10_init a0 M = some q) : xv_Met l yX10_init wsX10_init rm_X10_init 0 0 true [xr a0] M (xv_qV true q) := by
  refine xv_enter (cc := cX10_init) (nL := 1) (ret := none) rfl (by decide +kernel) (Nat.le_of_ble_eq_true rfl) h ?_
  intro Y hY0 hl hR hnL hfl hret hnm0
  have hY : xv_ok Y cX10_init wsX10_init RX10 := hY0
  unfold D_X10_init
  refine xv_mk (L' := [some (xr a0)]) [true] rfl ?_
  refine xv_aload_n rfl rfl hY dX10_init_0 rfl ?_
  refine xv_objInit hY dX10_init_1 rfl (by decide +kernel) (by decide +kernel) (by decide +kernel) (by rw [hR]; exact Nat.le_of_ble_eq_true rfl) (by rw [hR]; exact Nat.le_of_ble_eq_true rfl) ?_
  exact xv_vretu hY hfl dX10_init_4 hret (Nat.le_of_ble_eq_true rfl) (Nat.le_of_ble_eq_true rfl)
set_option maxHeartbeats 4000000 in
set_option maxRecDepth 100000 in
theorem S_X8_init (l : Launch) (a0 : Nat) (M : xv_M) (q : Unit × xv_M) (h : D_X8_init a0 M = some q) : xv_Met l yX8_init wsX8_init rm_X8_init 5 2126 true [xr a0] M (xv_qV true q) := by
  refine xv_enter (cc := cX8_init) (nL := 1) (ret := none) rfl (by decide +kernel) (Nat.le_of_ble_eq_true rfl) h ?_
  intro Y hY0 hl hR hnL hfl hret hnm0
  have hY : xv_ok Y cX8_init wsX8_init RX8 := hY0
  have hin8 : ∀ w ∈ u_ws RX8 TX8 5, w ∈ wsX8_init := fun _ h => List.mem_cons_of_mem _ (List.mem_append_left _ (List.mem_append_right _ h))
  have hin10 : ∀ w ∈ u_ws RX10 TX10 4, w ∈ wsX8_init := fun _ h => List.mem_cons_of_mem _ (List.mem_append_right _ h)
  unfold D_X8_init
  refine xv_mk (L' := [some (xr a0)]) [true] rfl ?_
  refine xv_aload_n rfl rfl hY dX8_init_0 rfl ?_
  refine xv_objInit hY dX8_init_1 rfl (by decide +kernel) (by decide +kernel) (by decide +kernel) (by rw [hR]; exact Nat.le_of_ble_eq_true rfl) (by rw [hR]; exact Nat.le_of_ble_eq_true rfl) ?_
  refine xv_aload_n rfl rfl hY dX8_init_4 rfl ?_
  refine xv_bipush (by decide) hY dX8_init_5 rfl ?_
  refine xv_newaI (N := 60) hY hfl dX8_init_7 rfl rfl (by decide) (by decide +kernel) (by rw [hR]; exact Nat.le_of_ble_eq_true rfl) (by rw [hR]; exact Nat.le_of_ble_eq_true rfl) (fun r1 M2 => ?_)
  refine xv_putP (ci := 8) (j := 0) hY dX8_init_9 rfl rfl rfl (by decide) hin8 (by decide) rfl (List.mem_of_getElem? (i := 5) rfl) tyX8_ok nmX8 (Or.inr ⟨rfl, hnm0, rfl⟩) (Or.inr ⟨_, rfl⟩) (fun M3 => ?_)
  refine xv_aload_n rfl rfl hY dX8_init_12 rfl ?_
  refine xv_bipush (by decide) hY dX8_init_13 rfl ?_
  refine xv_newaI (N := 60) hY hfl dX8_init_15 rfl rfl (by decide) (by decide +kernel) (by rw [hR]; exact Nat.le_of_ble_eq_true rfl) (by rw [hR]; exact Nat.le_of_ble_eq_true rfl) (fun r4 M5 => ?_)
  refine xv_putP (ci := 8) (j := 1) hY dX8_init_17 rfl rfl rfl (by decide) hin8 (by decide) rfl (List.mem_of_getElem? (i := 6) rfl) tyX8_ok nmX8 (Or.inr ⟨rfl, hnm0, rfl⟩) (Or.inr ⟨_, rfl⟩) (fun M6 => ?_)
  refine xv_aload_n rfl rfl hY dX8_init_20 rfl ?_
  refine xv_sipush (by decide) hY dX8_init_21 rfl ?_
  refine xv_newaI (N := 1001) hY hfl dX8_init_24 rfl rfl (by decide) (by decide +kernel) (by rw [hR]; exact Nat.le_of_ble_eq_true rfl) (by rw [hR]; exact Nat.le_of_ble_eq_true rfl) (fun r7 M8 => ?_)
  refine xv_putP (ci := 8) (j := 2) hY dX8_init_26 rfl rfl rfl (by decide) hin8 (by decide) rfl (List.mem_of_getElem? (i := 7) rfl) tyX8_ok nmX8 (Or.inr ⟨rfl, hnm0, rfl⟩) (Or.inr ⟨_, rfl⟩) (fun M9 => ?_)
  refine xv_aload_n rfl rfl hY dX8_init_29 rfl ?_
  refine xv_sipush (by decide) hY dX8_init_30 rfl ?_
  refine xv_newaI (N := 1001) hY hfl dX8_init_33 rfl rfl (by decide) (by decide +kernel) (by rw [hR]; exact Nat.le_of_ble_eq_true rfl) (by rw [hR]; exact Nat.le_of_ble_eq_true rfl) (fun r10 M11 => ?_)
  refine xv_putP (ci := 8) (j := 3) hY dX8_init_35 rfl rfl rfl (by decide) hin8 (by decide) rfl (List.mem_of_getElem? (i := 8) rfl) tyX8_ok nmX8 (Or.inr ⟨rfl, hnm0, rfl⟩) (Or.inr ⟨_, rfl⟩) (fun M12 => ?_)
  refine xv_aload_n rfl rfl hY dX8_init_38 rfl ?_
  refine xv_newO (ci := 10) hY hfl dX8_init_39 rfl rfl rfl (by decide) hin10 tyX10_ok xv_dv10 (by decide +kernel) (by decide +kernel) (by decide +kernel) (by rw [hR]; exact Nat.le_of_ble_eq_true rfl) (by rw [hR]; exact Nat.le_of_ble_eq_true rfl) (fun r13 M14 => ?_)
  refine xv_dupr hY dX8_init_42 rfl ?_
  refine xv_callINV (ret := none) (y := yX10_init) (ws := wsX10_init) (rm := rm_X10_init) (mc := 0) (ms := 0) (n := 0) (av := []) hY dX8_init_43 rfl rfl (fun q hq => by rw [hfl]; exact S_X10_init Y.1.2.1 r13 M14 q hq) ⟨va_cnB 0 hY.2.2.2.2.1 gX8_init_X10_init_n26 rfl rfl rfl (hY.2.2.2.2.2.1.2.1 _ (List.mem_of_getElem? (i := 7) rfl)) (hY.2.2.2.2.1 _ (by decide +kernel)) (by decide +kernel) ⟨(by rw [hR]; exact Nat.le_of_ble_eq_true rfl), (by rw [hR]; exact Nat.le_of_ble_eq_true rfl)⟩, rfl, hY.2.2.2.2.1 _ (by decide +kernel)⟩ rfl (Nat.le_of_ble_eq_true rfl) ⟨(by rw [hR]; exact Nat.le_of_ble_eq_true rfl), (by rw [hR]; exact Nat.le_of_ble_eq_true rfl)⟩ (fun _ M15 => ?_)
  refine xv_putP (ci := 8) (j := 4) hY dX8_init_46 rfl rfl rfl (by decide) hin8 (by decide) rfl (List.mem_of_getElem? (i := 12) rfl) tyX8_ok nmX8 (Or.inr ⟨rfl, hnm0, rfl⟩) (Or.inl ⟨_, rfl⟩) (fun M16 => ?_)
  exact xv_vretu hY hfl dX8_init_49 hret (Nat.le_of_ble_eq_true rfl) (Nat.le_of_ble_eq_true rfl)
set_option maxHeartbeats 4000000 in
set_option maxRecDepth 100000 in
theorem S_X2_init (l : Launch) (a0 : Nat) (M : xv_M) (q : Unit × xv_M) (h : D_X2_init a0 M = some q) : xv_Met l yX2_init wsX2_init rm_X2_init 36 3976 true [xr a0] M (xv_qV true q) := by
  refine xv_enter (cc := cX2_init) (nL := 1) (ret := none) rfl (by decide +kernel) (Nat.le_of_ble_eq_true rfl) h ?_
  intro Y hY0 hl hR hnL hfl hret hnm0
  have hY : xv_ok Y cX2_init wsX2_init RX2 := hY0
  have hin0 : ∀ w ∈ u_ws RX0 TX0 1, w ∈ wsX2_init := fun _ h => List.mem_cons_of_mem _ (List.mem_append_left _ (List.mem_append_left _ (List.mem_append_left _ (List.mem_append_left _ (List.mem_append_left _ (List.mem_append_right _ h))))))
  have hin2 : ∀ w ∈ u_ws RX2 TX2 3, w ∈ wsX2_init := fun _ h => List.mem_cons_of_mem _ (List.mem_append_left _ (List.mem_append_left _ (List.mem_append_left _ (List.mem_append_left _ (List.mem_append_left _ (List.mem_append_left _ (List.mem_append_right _ h)))))))
  have hin6 : ∀ w ∈ u_ws RX6 TX6 4, w ∈ wsX2_init := fun _ h => List.mem_cons_of_mem _ (List.mem_append_left _ (List.mem_append_left _ (List.mem_append_left _ (List.mem_append_left _ (List.mem_append_left _ (List.mem_append_left _ (List.mem_append_left _ (List.mem_append_right _ h))))))))
  have hin8 : ∀ w ∈ u_ws RX8 TX8 5, w ∈ wsX2_init := fun _ h => List.mem_cons_of_mem _ (List.mem_append_left _ (List.mem_append_left _ (List.mem_append_left _ (List.mem_append_left _ (List.mem_append_right _ h)))))
  unfold D_X2_init
  refine xv_mk (L' := [some (xr a0)]) [true] rfl ?_
  refine xv_aload_n rfl rfl hY dX2_init_0 rfl ?_
  refine xv_objInit hY dX2_init_1 rfl (by decide +kernel) (by decide +kernel) (by decide +kernel) (by rw [hR]; exact Nat.le_of_ble_eq_true rfl) (by rw [hR]; exact Nat.le_of_ble_eq_true rfl) ?_
  refine xv_aload_n rfl rfl hY dX2_init_4 rfl ?_
  refine xv_newO (ci := 6) hY hfl dX2_init_5 rfl rfl rfl (by decide) hin6 tyX6_ok xv_dv6 (by decide +kernel) (by decide +kernel) (by decide +kernel) (by rw [hR]; exact Nat.le_of_ble_eq_true rfl) (by rw [hR]; exact Nat.le_of_ble_eq_true rfl) (fun r1 M2 => ?_)
  refine xv_dupr hY dX2_init_8 rfl ?_
  refine xv_callINV (ret := none) (y := yX6_init) (ws := wsX6_init) (rm := rm_X6_init) (mc := 27) (ms := 839) (n := 0) (av := []) hY dX2_init_9 rfl rfl (fun q hq => by rw [hfl]; exact S_X6_init Y.1.2.1 r1 M2 q hq) ⟨va_cnB 0 hY.2.2.2.2.1 gX2_init_X6_init_n11 rfl rfl rfl (hY.2.2.2.2.2.1.2.1 _ (List.mem_of_getElem? (i := 1) rfl)) (hY.2.2.2.2.1 _ (by decide +kernel)) (by decide +kernel) ⟨(by rw [hR]; exact Nat.le_of_ble_eq_true rfl), (by rw [hR]; exact Nat.le_of_ble_eq_true rfl)⟩, rfl, hY.2.2.2.2.1 _ (by decide +kernel)⟩ rfl (Nat.le_of_ble_eq_true rfl) ⟨(by rw [hR]; exact Nat.le_of_ble_eq_true rfl), (by rw [hR]; exact Nat.le_of_ble_eq_true rfl)⟩ (fun _ M3 => ?_)
  refine xv_putP (ci := 2) (j := 0) hY dX2_init_12 rfl rfl rfl (by decide) hin2 (by decide) rfl (List.mem_of_getElem? (i := 7) rfl) tyX2_ok nmX2 (Or.inr ⟨rfl, hnm0, rfl⟩) (Or.inl ⟨_, rfl⟩) (fun M4 => ?_)
  refine xv_aload_n rfl rfl hY dX2_init_15 rfl ?_
  refine xv_newO (ci := 0) hY hfl dX2_init_16 rfl rfl rfl (by decide) hin0 tyX0_ok xv_dv0 (by decide +kernel) (by decide +kernel) (by decide +kernel) (by rw [hR]; exact Nat.le_of_ble_eq_true rfl) (by rw [hR]; exact Nat.le_of_ble_eq_true rfl) (fun r5 M6 => ?_)
  refine xv_dupr hY dX2_init_19 rfl ?_
  refine xv_callINV (ret := none) (y := yX0_init) (ws := wsX0_init) (rm := rm_X0_init) (mc := 1) (ms := 1001) (n := 0) (av := []) hY dX2_init_20 rfl rfl (fun q hq => by rw [hfl]; exact S_X0_init Y.1.2.1 r5 M6 q hq) ⟨va_cnB 0 hY.2.2.2.2.1 gX2_init_X0_init_n20 rfl rfl rfl (hY.2.2.2.2.2.1.2.1 _ (List.mem_of_getElem? (i := 5) rfl)) (hY.2.2.2.2.1 _ (by decide +kernel)) (by decide +kernel) ⟨(by rw [hR]; exact Nat.le_of_ble_eq_true rfl), (by rw [hR]; exact Nat.le_of_ble_eq_true rfl)⟩, rfl, hY.2.2.2.2.1 _ (by decide +kernel)⟩ rfl (Nat.le_of_ble_eq_true rfl) ⟨(by rw [hR]; exact Nat.le_of_ble_eq_true rfl), (by rw [hR]; exact Nat.le_of_ble_eq_true rfl)⟩ (fun _ M7 => ?_)
  refine xv_putP (ci := 2) (j := 1) hY dX2_init_23 rfl rfl rfl (by decide) hin2 (by decide) rfl (List.mem_of_getElem? (i := 11) rfl) tyX2_ok nmX2 (Or.inr ⟨rfl, hnm0, rfl⟩) (Or.inl ⟨_, rfl⟩) (fun M8 => ?_)
  refine xv_aload_n rfl rfl hY dX2_init_26 rfl ?_
  refine xv_newO (ci := 8) hY hfl dX2_init_27 rfl rfl rfl (by decide) hin8 tyX8_ok xv_dv8 (by decide +kernel) (by decide +kernel) (by decide +kernel) (by rw [hR]; exact Nat.le_of_ble_eq_true rfl) (by rw [hR]; exact Nat.le_of_ble_eq_true rfl) (fun r9 M10 => ?_)
  refine xv_dupr hY dX2_init_30 rfl ?_
  refine xv_callINV (ret := none) (y := yX8_init) (ws := wsX8_init) (rm := rm_X8_init) (mc := 5) (ms := 2126) (n := 0) (av := []) hY dX2_init_31 rfl rfl (fun q hq => by rw [hfl]; exact S_X8_init Y.1.2.1 r9 M10 q hq) ⟨va_cnB 0 hY.2.2.2.2.1 gX2_init_X8_init_n27 rfl rfl rfl (hY.2.2.2.2.2.1.2.1 _ (List.mem_of_getElem? (i := 6) rfl)) (hY.2.2.2.2.1 _ (by decide +kernel)) (by decide +kernel) ⟨(by rw [hR]; exact Nat.le_of_ble_eq_true rfl), (by rw [hR]; exact Nat.le_of_ble_eq_true rfl)⟩, rfl, hY.2.2.2.2.1 _ (by decide +kernel)⟩ rfl (Nat.le_of_ble_eq_true rfl) ⟨(by rw [hR]; exact Nat.le_of_ble_eq_true rfl), (by rw [hR]; exact Nat.le_of_ble_eq_true rfl)⟩ (fun _ M11 => ?_)
  refine xv_putP (ci := 2) (j := 2) hY dX2_init_34 rfl rfl rfl (by decide) hin2 (by decide) rfl (List.mem_of_getElem? (i := 15) rfl) tyX2_ok nmX2 (Or.inr ⟨rfl, hnm0, rfl⟩) (Or.inl ⟨_, rfl⟩) (fun M12 => ?_)
  exact xv_vretu hY hfl dX2_init_37 hret (Nat.le_of_ble_eq_true rfl) (Nat.le_of_ble_eq_true rfl)
set_option maxHeartbeats 4000000 in
set_option maxRecDepth 100000 in
theorem S_J7_fill_53178 (l : Launch) (a0 : Nat) (a1 : Int) (M : xv_M) (q : Unit × xv_M) (h : D_J7_fill_53178 a0 a1 M = some q) : xv_Met l yJ7_fill_53178 wsJ7_fill_53178 rm_J7_fill_53178 0 0 false [xr a0, xi a1] M (xv_qV false q) := by
  refine xv_enter (cc := cJ7_fill_53178) (nL := 4) (ret := none) rfl (by decide +kernel) (Nat.le_of_ble_eq_true rfl) h ?_
  intro Y hY0 hl hR hnL hfl hret hnm0
  have hY : xv_ok Y cJ7_fill_53178 wsJ7_fill_53178 RJ7 := hY0
  unfold D_J7_fill_53178
  refine xv_mk (L' := [some (xr a0), some (xi a1), none, none]) [true, true, true, true] rfl ?_
  refine xv_iconst hY dJ7_fill_53178_0 rfl ?_
  refine xv_istore_n (L' := [some (xr a0), some (xi a1), some (xi (0 : Int)), none]) hY dJ7_fill_53178_1 rfl rfl (by rw [hnL]; decide) rfl rfl ?_
  refine xv_aload_n rfl rfl hY dJ7_fill_53178_2 rfl ?_
  refine xv_alenI hY dJ7_fill_53178_3 rfl (fun v1 => ?_)
  refine xv_istore_n (L' := [some (xr a0), some (xi a1), some (xi (0 : Int)), some (xi v1)]) hY dJ7_fill_53178_4 rfl rfl (by rw [hnL]; decide) rfl rfl ?_
  refine xv_mk (L' := [some (xr a0), some (xi a1), some (xi (0 : Int)), some (xi v1)]) [true, true, true, true] rfl ?_
  refine xv_loop (σ := Int × xv_M) (fun x2 => [some (xr a0), some (xi a1), some (xi x2.1), some (xi v1)]) (fun x2 => x2.2) (fun f3 hf3 x2 => ?_) xv_fuel ((0 : Int), M)
  refine xv_iload_n rfl rfl hY dJ7_fill_53178_5 rfl ?_
  refine xv_iload_n rfl rfl hY dJ7_fill_53178_6 rfl ?_
  refine xv_icmp_ge (t := 20) hY dJ7_fill_53178_7 (by decide) rfl ?_ ?_
  · exact xv_vretu hY hfl dJ7_fill_53178_20 hret (Nat.le_of_ble_eq_true rfl) (Nat.le_of_ble_eq_true rfl)
  · refine xv_aload_n rfl rfl hY dJ7_fill_53178_10 rfl ?_
    refine xv_iload_n rfl rfl hY dJ7_fill_53178_11 rfl ?_
    refine xv_iload_n rfl rfl hY dJ7_fill_53178_12 rfl ?_
    refine xv_iast hY hfl dJ7_fill_53178_13 rfl (fun M4 => ?_)
    refine xv_iinc (L' := [some (xr a0), some (xi a1), some (xi (x2.1 + 1)), some (xi v1)]) hY dJ7_fill_53178_14 rfl (by rw [hnL]; decide) rfl rfl rfl ?_
    refine xv_goto (pc' := 5) hY dJ7_fill_53178_17 (by decide) ?_
    exact xv_mk (L' := [some (xr a0), some (xi a1), some (xi (x2.1 + 1)), some (xi v1)]) [true, true, true, true] rfl (hf3 ((x2.1 + 1), M4))
set_option maxHeartbeats 4000000 in
set_option maxRecDepth 100000 in
theorem S_X10_halfway (l : Launch) (a0 : Int) (a1 : Int) (M : xv_M) (q : Int × xv_M) (h : D_X10_halfway a0 a1 M = some q) : xv_Met l yX10_halfway wsX10_halfway rm_X10_halfway 0 0 false [xi a0, xi a1] M (xv_qI false q) := by
  refine xv_enter (cc := cX10_halfway) (nL := 2) (ret := (some .int)) rfl (by decide +kernel) (Nat.le_of_ble_eq_true rfl) h ?_
  intro Y hY0 hl hR hnL hfl hret hnm0
  have hY : xv_ok Y cX10_halfway wsX10_halfway RX10 := hY0
  unfold D_X10_halfway
  refine xv_mk (L' := [some (xi a0), some (xi a1)]) [true, true] rfl ?_
  refine xv_iload_n rfl rfl hY dX10_halfway_0 rfl ?_
  refine xv_iload_n rfl rfl hY dX10_halfway_1 rfl ?_
  refine xv_iadd hY dX10_halfway_2 rfl ?_
  refine xv_iconst hY dX10_halfway_3 rfl ?_
  refine xv_idiv hY dX10_halfway_4 rfl ?_
  exact xv_ireti hY hfl dX10_halfway_5 hret (Nat.le_of_ble_eq_true rfl) (Nat.le_of_ble_eq_true rfl)
set_option maxHeartbeats 4000000 in
set_option maxRecDepth 100000 in
theorem S_X10_start (l : Launch) (a0 : Nat) (M : xv_M) (q : Unit × xv_M) (h : D_X10_start a0 M = some q) : xv_Met l yX10_start wsX10_start rm_X10_start 0 0 false [xr a0] M (xv_qV false q) := by
  refine xv_enter (cc := cX10_start) (nL := 1) (ret := none) rfl (by decide +kernel) (Nat.le_of_ble_eq_true rfl) h ?_
  intro Y hY0 hl hR hnL hfl hret hnm0
  have hY : xv_ok Y cX10_start wsX10_start RX10 := hY0
  have hin10 : ∀ w ∈ u_ws RX10 TX10 4, w ∈ wsX10_start := fun _ h => List.mem_cons_of_mem _ (List.mem_append_right _ h)
  unfold D_X10_start
  refine xv_mk (L' := [some (xr a0)]) [true] rfl ?_
  refine xv_aload_n rfl rfl hY dX10_start_0 rfl ?_
  refine xv_iconst hY dX10_start_1 rfl ?_
  refine xv_putI (ci := 10) (j := 0) hY dX10_start_2 rfl rfl rfl (by decide) hin10 (by decide) rfl (List.mem_of_getElem? (i := 1) rfl) tyX10_ok nmX10 (Or.inl rfl) rfl (fun M1 => ?_)
  refine xv_aload_n rfl rfl hY dX10_start_5 rfl ?_
  refine xv_sipush (by decide) hY dX10_start_6 rfl ?_
  refine xv_putI (ci := 10) (j := 1) hY dX10_start_9 rfl rfl rfl (by decide) hin10 (by decide) rfl (List.mem_of_getElem? (i := 2) rfl) tyX10_ok nmX10 (Or.inl rfl) rfl (fun M2 => ?_)
  refine xv_aload_n rfl rfl hY dX10_start_12 rfl ?_
  refine xv_aload_n rfl rfl hY dX10_start_13 rfl ?_
  refine xv_getI (ci := 10) (j := 0) hY dX10_start_14 rfl rfl rfl (by decide) hin10 (by decide) rfl (List.mem_of_getElem? (i := 1) rfl) (fun v3 => ?_)
  refine xv_aload_n rfl rfl hY dX10_start_17 rfl ?_
  refine xv_getI (ci := 10) (j := 1) hY dX10_start_18 rfl rfl rfl (by decide) hin10 (by decide) rfl (List.mem_of_getElem? (i := 2) rfl) (fun v4 => ?_)
  refine xv_callSI (y := yX10_halfway) (ws := wsX10_halfway) (rm := rm_X10_halfway) (mc := 0) (ms := 0) (n := 2) (av := [xi v3, xi v4]) hY dX10_start_21 rfl rfl (fun q hq => by rw [hfl]; exact S_X10_halfway Y.1.2.1 v3 v4 M2 q hq) (va_cwS 2 hY.2.2.2.2.1 gX10_start_X10_halfway rfl rfl rfl (by decide +kernel) ⟨(by rw [hR]; exact Nat.le_of_ble_eq_true rfl), (by rw [hR]; exact Nat.le_of_ble_eq_true rfl)⟩) rfl (Nat.le_of_ble_eq_true rfl) ⟨(by rw [hR]; exact Nat.le_of_ble_eq_true rfl), (by rw [hR]; exact Nat.le_of_ble_eq_true rfl)⟩ (fun z6 M5 => ?_)
  refine xv_putI (ci := 10) (j := 2) hY dX10_start_24 rfl rfl rfl (by decide) hin10 (by decide) rfl (List.mem_of_getElem? (i := 3) rfl) tyX10_ok nmX10 (Or.inl rfl) rfl (fun M7 => ?_)
  refine xv_aload_n rfl rfl hY dX10_start_27 rfl ?_
  refine xv_iconst hY dX10_start_28 rfl ?_
  refine xv_putI (ci := 10) (j := 3) hY dX10_start_29 rfl rfl rfl (by decide) hin10 (by decide) rfl (List.mem_of_getElem? (i := 4) rfl) tyX10_ok nmX10 (Or.inl rfl) rfl (fun M8 => ?_)
  exact xv_vretu hY hfl dX10_start_32 hret (Nat.le_of_ble_eq_true rfl) (Nat.le_of_ble_eq_true rfl)
set_option maxHeartbeats 4000000 in
set_option maxRecDepth 100000 in
theorem S_X10_hasPlaces (l : Launch) (a0 : Nat) (M : xv_M) (q : Int × xv_M) (h : D_X10_hasPlaces a0 M = some q) : xv_Met l yX10_hasPlaces wsX10_hasPlaces rm_X10_hasPlaces 0 0 false [xr a0] M (xv_qI false q) := by
  refine xv_enter (cc := cX10_hasPlaces) (nL := 1) (ret := (some .boolean)) rfl (by decide +kernel) (Nat.le_of_ble_eq_true rfl) h ?_
  intro Y hY0 hl hR hnL hfl hret hnm0
  have hY : xv_ok Y cX10_hasPlaces wsX10_hasPlaces RX10 := hY0
  have hin10 : ∀ w ∈ u_ws RX10 TX10 4, w ∈ wsX10_hasPlaces := fun _ h => List.mem_cons_of_mem _ (List.mem_append_right _ h)
  unfold D_X10_hasPlaces
  refine xv_mk (L' := [some (xr a0)]) [true] rfl ?_
  refine xv_aload_n rfl rfl hY dX10_hasPlaces_0 rfl ?_
  refine xv_getI (ci := 10) (j := 0) hY dX10_hasPlaces_1 rfl rfl rfl (by decide) hin10 (by decide) rfl (List.mem_of_getElem? (i := 1) rfl) (fun v1 => ?_)
  refine xv_aload_n rfl rfl hY dX10_hasPlaces_4 rfl ?_
  refine xv_getI (ci := 10) (j := 1) hY dX10_hasPlaces_5 rfl rfl rfl (by decide) hin10 (by decide) rfl (List.mem_of_getElem? (i := 2) rfl) (fun v2 => ?_)
  refine xv_icmp_gt (t := 15) hY dX10_hasPlaces_8 (by decide) rfl ?_ ?_
  · refine xv_iconst hY dX10_hasPlaces_15 rfl ?_
    exact xv_iretz hY hfl dX10_hasPlaces_16 hret (Nat.le_of_ble_eq_true rfl) (Nat.le_of_ble_eq_true rfl)
  · refine xv_iconst hY dX10_hasPlaces_11 rfl ?_
    refine xv_goto (pc' := 16) hY dX10_hasPlaces_12 (by decide) ?_
    exact xv_iretz hY hfl dX10_hasPlaces_16 hret (Nat.le_of_ble_eq_true rfl) (Nat.le_of_ble_eq_true rfl)
set_option maxHeartbeats 4000000 in
set_option maxRecDepth 100000 in
theorem S_X10_goLeft (l : Launch) (a0 : Nat) (M : xv_M) (q : Unit × xv_M) (h : D_X10_goLeft a0 M = some q) : xv_Met l yX10_goLeft wsX10_goLeft rm_X10_goLeft 0 0 false [xr a0] M (xv_qV false q) := by
  refine xv_enter (cc := cX10_goLeft) (nL := 1) (ret := none) rfl (by decide +kernel) (Nat.le_of_ble_eq_true rfl) h ?_
  intro Y hY0 hl hR hnL hfl hret hnm0
  have hY : xv_ok Y cX10_goLeft wsX10_goLeft RX10 := hY0
  have hin10 : ∀ w ∈ u_ws RX10 TX10 4, w ∈ wsX10_goLeft := fun _ h => List.mem_cons_of_mem _ (List.mem_append_right _ h)
  unfold D_X10_goLeft
  refine xv_mk (L' := [some (xr a0)]) [true] rfl ?_
  refine xv_aload_n rfl rfl hY dX10_goLeft_0 rfl ?_
  refine xv_aload_n rfl rfl hY dX10_goLeft_1 rfl ?_
  refine xv_getI (ci := 10) (j := 2) hY dX10_goLeft_2 rfl rfl rfl (by decide) hin10 (by decide) rfl (List.mem_of_getElem? (i := 1) rfl) (fun v1 => ?_)
  refine xv_iconst hY dX10_goLeft_5 rfl ?_
  refine xv_isub hY dX10_goLeft_6 rfl ?_
  refine xv_putI (ci := 10) (j := 1) hY dX10_goLeft_7 rfl rfl rfl (by decide) hin10 (by decide) rfl (List.mem_of_getElem? (i := 2) rfl) tyX10_ok nmX10 (Or.inl rfl) rfl (fun M2 => ?_)
  refine xv_aload_n rfl rfl hY dX10_goLeft_10 rfl ?_
  refine xv_aload_n rfl rfl hY dX10_goLeft_11 rfl ?_
  refine xv_getI (ci := 10) (j := 0) hY dX10_goLeft_12 rfl rfl rfl (by decide) hin10 (by decide) rfl (List.mem_of_getElem? (i := 3) rfl) (fun v3 => ?_)
  refine xv_aload_n rfl rfl hY dX10_goLeft_15 rfl ?_
  refine xv_getI (ci := 10) (j := 1) hY dX10_goLeft_16 rfl rfl rfl (by decide) hin10 (by decide) rfl (List.mem_of_getElem? (i := 2) rfl) (fun v4 => ?_)
  refine xv_callSI (y := yX10_halfway) (ws := wsX10_halfway) (rm := rm_X10_halfway) (mc := 0) (ms := 0) (n := 2) (av := [xi v3, xi v4]) hY dX10_goLeft_19 rfl rfl (fun q hq => by rw [hfl]; exact S_X10_halfway Y.1.2.1 v3 v4 M2 q hq) (va_cwS 2 hY.2.2.2.2.1 gX10_goLeft_X10_halfway rfl rfl rfl (by decide +kernel) ⟨(by rw [hR]; exact Nat.le_of_ble_eq_true rfl), (by rw [hR]; exact Nat.le_of_ble_eq_true rfl)⟩) rfl (Nat.le_of_ble_eq_true rfl) ⟨(by rw [hR]; exact Nat.le_of_ble_eq_true rfl), (by rw [hR]; exact Nat.le_of_ble_eq_true rfl)⟩ (fun z6 M5 => ?_)
  refine xv_putI (ci := 10) (j := 2) hY dX10_goLeft_22 rfl rfl rfl (by decide) hin10 (by decide) rfl (List.mem_of_getElem? (i := 1) rfl) tyX10_ok nmX10 (Or.inl rfl) rfl (fun M7 => ?_)
  refine xv_aload_n rfl rfl hY dX10_goLeft_25 rfl ?_
  refine xv_dupr hY dX10_goLeft_26 rfl ?_
  refine xv_getI (ci := 10) (j := 3) hY dX10_goLeft_27 rfl rfl rfl (by decide) hin10 (by decide) rfl (List.mem_of_getElem? (i := 4) rfl) (fun v8 => ?_)
  refine xv_iconst hY dX10_goLeft_30 rfl ?_
  refine xv_iadd hY dX10_goLeft_31 rfl ?_
  refine xv_putI (ci := 10) (j := 3) hY dX10_goLeft_32 rfl rfl rfl (by decide) hin10 (by decide) rfl (List.mem_of_getElem? (i := 4) rfl) tyX10_ok nmX10 (Or.inl rfl) rfl (fun M9 => ?_)
  exact xv_vretu hY hfl dX10_goLeft_35 hret (Nat.le_of_ble_eq_true rfl) (Nat.le_of_ble_eq_true rfl)
set_option maxHeartbeats 4000000 in
set_option maxRecDepth 100000 in
theorem S_X10_goRight (l : Launch) (a0 : Nat) (M : xv_M) (q : Unit × xv_M) (h : D_X10_goRight a0 M = some q) : xv_Met l yX10_goRight wsX10_goRight rm_X10_goRight 0 0 false [xr a0] M (xv_qV false q) := by
  refine xv_enter (cc := cX10_goRight) (nL := 1) (ret := none) rfl (by decide +kernel) (Nat.le_of_ble_eq_true rfl) h ?_
  intro Y hY0 hl hR hnL hfl hret hnm0
  have hY : xv_ok Y cX10_goRight wsX10_goRight RX10 := hY0
  have hin10 : ∀ w ∈ u_ws RX10 TX10 4, w ∈ wsX10_goRight := fun _ h => List.mem_cons_of_mem _ (List.mem_append_right _ h)
  unfold D_X10_goRight
  refine xv_mk (L' := [some (xr a0)]) [true] rfl ?_
  refine xv_aload_n rfl rfl hY dX10_goRight_0 rfl ?_
  refine xv_aload_n rfl rfl hY dX10_goRight_1 rfl ?_
  refine xv_getI (ci := 10) (j := 2) hY dX10_goRight_2 rfl rfl rfl (by decide) hin10 (by decide) rfl (List.mem_of_getElem? (i := 1) rfl) (fun v1 => ?_)
  refine xv_iconst hY dX10_goRight_5 rfl ?_
  refine xv_iadd hY dX10_goRight_6 rfl ?_
  refine xv_putI (ci := 10) (j := 0) hY dX10_goRight_7 rfl rfl rfl (by decide) hin10 (by decide) rfl (List.mem_of_getElem? (i := 2) rfl) tyX10_ok nmX10 (Or.inl rfl) rfl (fun M2 => ?_)
  refine xv_aload_n rfl rfl hY dX10_goRight_10 rfl ?_
  refine xv_aload_n rfl rfl hY dX10_goRight_11 rfl ?_
  refine xv_getI (ci := 10) (j := 0) hY dX10_goRight_12 rfl rfl rfl (by decide) hin10 (by decide) rfl (List.mem_of_getElem? (i := 2) rfl) (fun v3 => ?_)
  refine xv_aload_n rfl rfl hY dX10_goRight_15 rfl ?_
  refine xv_getI (ci := 10) (j := 1) hY dX10_goRight_16 rfl rfl rfl (by decide) hin10 (by decide) rfl (List.mem_of_getElem? (i := 3) rfl) (fun v4 => ?_)
  refine xv_callSI (y := yX10_halfway) (ws := wsX10_halfway) (rm := rm_X10_halfway) (mc := 0) (ms := 0) (n := 2) (av := [xi v3, xi v4]) hY dX10_goRight_19 rfl rfl (fun q hq => by rw [hfl]; exact S_X10_halfway Y.1.2.1 v3 v4 M2 q hq) (va_cwS 2 hY.2.2.2.2.1 gX10_goRight_X10_halfway rfl rfl rfl (by decide +kernel) ⟨(by rw [hR]; exact Nat.le_of_ble_eq_true rfl), (by rw [hR]; exact Nat.le_of_ble_eq_true rfl)⟩) rfl (Nat.le_of_ble_eq_true rfl) ⟨(by rw [hR]; exact Nat.le_of_ble_eq_true rfl), (by rw [hR]; exact Nat.le_of_ble_eq_true rfl)⟩ (fun z6 M5 => ?_)
  refine xv_putI (ci := 10) (j := 2) hY dX10_goRight_22 rfl rfl rfl (by decide) hin10 (by decide) rfl (List.mem_of_getElem? (i := 1) rfl) tyX10_ok nmX10 (Or.inl rfl) rfl (fun M7 => ?_)
  refine xv_aload_n rfl rfl hY dX10_goRight_25 rfl ?_
  refine xv_dupr hY dX10_goRight_26 rfl ?_
  refine xv_getI (ci := 10) (j := 3) hY dX10_goRight_27 rfl rfl rfl (by decide) hin10 (by decide) rfl (List.mem_of_getElem? (i := 4) rfl) (fun v8 => ?_)
  refine xv_iconst hY dX10_goRight_30 rfl ?_
  refine xv_iadd hY dX10_goRight_31 rfl ?_
  refine xv_putI (ci := 10) (j := 3) hY dX10_goRight_32 rfl rfl rfl (by decide) hin10 (by decide) rfl (List.mem_of_getElem? (i := 4) rfl) tyX10_ok nmX10 (Or.inl rfl) rfl (fun M9 => ?_)
  exact xv_vretu hY hfl dX10_goRight_35 hret (Nat.le_of_ble_eq_true rfl) (Nat.le_of_ble_eq_true rfl)
set_option maxHeartbeats 4000000 in
set_option maxRecDepth 100000 in
theorem S_X8_lay (l : Launch) (a0 : Nat) (a1 : Int) (a2 : Int) (a3 : Int) (M : xv_M) (q : Unit × xv_M) (h : D_X8_lay a0 a1 a2 a3 M = some q) : xv_Met l yX8_lay wsX8_lay rm_X8_lay 0 0 false [xr a0, xi a1, xi a2, xi a3] M (xv_qV false q) := by
  refine xv_enter (cc := cX8_lay) (nL := 6) (ret := none) rfl (by decide +kernel) (Nat.le_of_ble_eq_true rfl) h ?_
  intro Y hY0 hl hR hnL hfl hret hnm0
  have hY : xv_ok Y cX8_lay wsX8_lay RX8 := hY0
  have hin8 : ∀ w ∈ u_ws RX8 TX8 5, w ∈ wsX8_lay := fun _ h => List.mem_cons_of_mem _ (List.mem_append_left _ (List.mem_append_right _ h))
  have hin10 : ∀ w ∈ u_ws RX10 TX10 4, w ∈ wsX8_lay := fun _ h => List.mem_cons_of_mem _ (List.mem_append_right _ h)
  unfold D_X8_lay
  refine xv_mk (L' := [some (xr a0), some (xi a1), some (xi a2), some (xi a3), none, none]) [true, true, true, true, true, true] rfl ?_
  refine xv_aload_n rfl rfl hY dX8_lay_0 rfl ?_
  refine xv_getP (ci := 8) (j := 4) hY dX8_lay_1 rfl rfl rfl (by decide) hin8 (by decide) rfl (List.mem_of_getElem? (i := 1) rfl) (fun v1 => ?_)
  refine xv_callVV (ci := 10) (y := yX10_start) (ws := wsX10_start) (rm := rm_X10_start) (mc := 0) (ms := 0) (n := 0) (av := []) hY dX8_lay_4 rfl rfl rfl (by decide) (fun q hq => by rw [hfl]; exact S_X10_start Y.1.2.1 v1 M q hq) (cwV 0 hY.2.2.2.2.1 gX8_lay_X10_start rfl rfl rfl (by decide +kernel) ⟨(by rw [hR]; exact Nat.le_of_ble_eq_true rfl), (by rw [hR]; exact Nat.le_of_ble_eq_true rfl)⟩) rfl (Nat.le_of_ble_eq_true rfl) ⟨(by rw [hR]; exact Nat.le_of_ble_eq_true rfl), (by rw [hR]; exact Nat.le_of_ble_eq_true rfl)⟩ (fun _ M2 => ?_)
  refine xv_iconst hY dX8_lay_7 rfl ?_
  refine xv_istore (L' := [some (xr a0), some (xi a1), some (xi a2), some (xi a3), some (xi (0 : Int)), none]) hY dX8_lay_8 rfl (by rw [hnL]; decide) rfl rfl ?_
  refine xv_mk (L' := [some (xr a0), some (xi a1), some (xi a2), some (xi a3), some (xi (0 : Int)), none]) [true, true, true, true, true, false] rfl ?_
  refine xv_loop (σ := Int × xv_M) (fun x3 => [some (xr a0), some (xi a1), some (xi a2), some (xi a3), some (xi x3.1), none]) (fun x3 => x3.2) (fun f4 hf4 x3 => ?_) xv_fuel ((0 : Int), M2)
  refine xv_iload rfl hY dX8_lay_10 rfl ?_
  refine xv_bipush (by decide) hY dX8_lay_12 rfl ?_
  refine xv_icmp_ge (t := 118) hY dX8_lay_14 (by decide) rfl ?_ ?_
  · exact xv_vretu hY hfl dX8_lay_118 hret (Nat.le_of_ble_eq_true rfl) (Nat.le_of_ble_eq_true rfl)
  · refine xv_aload_n rfl rfl hY dX8_lay_17 rfl ?_
    refine xv_getP (ci := 8) (j := 4) hY dX8_lay_18 rfl rfl rfl (by decide) hin8 (by decide) rfl (List.mem_of_getElem? (i := 1) rfl) (fun v5 => ?_)
    refine xv_callVI (ci := 10) (y := yX10_hasPlaces) (ws := wsX10_hasPlaces) (rm := rm_X10_hasPlaces) (mc := 0) (ms := 0) (n := 0) (av := []) hY dX8_lay_21 rfl rfl rfl (by decide) (fun q hq => by rw [hfl]; exact S_X10_hasPlaces Y.1.2.1 v5 x3.2 q hq) (cwV 0 hY.2.2.2.2.1 gX8_lay_X10_hasPlaces rfl rfl rfl (by decide +kernel) ⟨(by rw [hR]; exact Nat.le_of_ble_eq_true rfl), (by rw [hR]; exact Nat.le_of_ble_eq_true rfl)⟩) rfl (Nat.le_of_ble_eq_true rfl) ⟨(by rw [hR]; exact Nat.le_of_ble_eq_true rfl), (by rw [hR]; exact Nat.le_of_ble_eq_true rfl)⟩ (fun z7 M6 => ?_)
    refine xv_if_eq (t := 118) hY dX8_lay_24 (by decide) rfl ?_ ?_
    · exact xv_vretu hY hfl dX8_lay_118 hret (Nat.le_of_ble_eq_true rfl) (Nat.le_of_ble_eq_true rfl)
    · refine xv_aload_n rfl rfl hY dX8_lay_27 rfl ?_
      refine xv_getP (ci := 8) (j := 4) hY dX8_lay_28 rfl rfl rfl (by decide) hin8 (by decide) rfl (List.mem_of_getElem? (i := 1) rfl) (fun v8 => ?_)
      refine xv_getI (ci := 10) (j := 2) hY dX8_lay_31 rfl rfl rfl (by decide) hin10 (by decide) rfl (List.mem_of_getElem? (i := 2) rfl) (fun v9 => ?_)
      refine xv_istore (L' := [some (xr a0), some (xi a1), some (xi a2), some (xi a3), some (xi x3.1), some (xi v9)]) hY dX8_lay_34 rfl (by rw [hnL]; decide) rfl rfl ?_
      refine xv_aload_n rfl rfl hY dX8_lay_36 rfl ?_
      refine xv_getP (ci := 8) (j := 3) hY dX8_lay_37 rfl rfl rfl (by decide) hin8 (by decide) rfl (List.mem_of_getElem? (i := 3) rfl) (fun v10 => ?_)
      refine xv_iload rfl hY dX8_lay_40 rfl ?_
      refine xv_dup2 hY dX8_lay_42 rfl ?_
      refine xv_iald hY dX8_lay_43 rfl (fun v11 => ?_)
      refine xv_iconst hY dX8_lay_44 rfl ?_
      refine xv_iadd hY dX8_lay_45 rfl ?_
      refine xv_iast hY hfl dX8_lay_46 rfl (fun M12 => ?_)
      refine xv_iload_n rfl rfl hY dX8_lay_47 rfl ?_
      refine xv_iload rfl hY dX8_lay_48 rfl ?_
      refine xv_join (α := xv_M) 112 (fun x13 => [some (xr a0), some (xi a1), some (xi a2), some (xi a3), some (xi x3.1), none]) (fun x13 => []) (fun x13 => x13) (fun x13 => ?_) (fun j14 hj14 => ?_)
      · refine xv_iinc (L' := [some (xr a0), some (xi a1), some (xi a2), some (xi a3), some (xi (x3.1 + 1)), none]) hY dX8_lay_112 rfl (by rw [hnL]; decide) rfl rfl rfl ?_
        refine xv_goto (pc' := 10) hY dX8_lay_115 (by decide) ?_
        exact xv_mk (L' := [some (xr a0), some (xi a1), some (xi a2), some (xi a3), some (xi (x3.1 + 1)), none]) [true, true, true, true, true, false] rfl (hf4 ((x3.1 + 1), x13))
      · refine xv_icmp_ge (t := 63) hY dX8_lay_50 (by decide) rfl ?_ ?_
        · refine xv_iload_n rfl rfl hY dX8_lay_63 rfl ?_
          refine xv_iload rfl hY dX8_lay_64 rfl ?_
          refine xv_icmp_le (t := 79) hY dX8_lay_66 (by decide) rfl ?_ ?_
          · refine xv_aload_n rfl rfl hY dX8_lay_79 rfl ?_
            refine xv_getP (ci := 8) (j := 2) hY dX8_lay_80 rfl rfl rfl (by decide) hin8 (by decide) rfl (List.mem_of_getElem? (i := 4) rfl) (fun v15 => ?_)
            refine xv_iload rfl hY dX8_lay_83 rfl ?_
            refine xv_dup2 hY dX8_lay_85 rfl ?_
            refine xv_iald hY dX8_lay_86 rfl (fun v16 => ?_)
            refine xv_iconst hY dX8_lay_87 rfl ?_
            refine xv_iadd hY dX8_lay_88 rfl ?_
            refine xv_iast hY hfl dX8_lay_89 rfl (fun M17 => ?_)
            refine xv_aload_n rfl rfl hY dX8_lay_90 rfl ?_
            refine xv_getP (ci := 8) (j := 0) hY dX8_lay_91 rfl rfl rfl (by decide) hin8 (by decide) rfl (List.mem_of_getElem? (i := 5) rfl) (fun v18 => ?_)
            refine xv_iload_n rfl rfl hY dX8_lay_94 rfl ?_
            refine xv_iload rfl hY dX8_lay_95 rfl ?_
            refine xv_iast hY hfl dX8_lay_97 rfl (fun M19 => ?_)
            refine xv_aload_n rfl rfl hY dX8_lay_98 rfl ?_
            refine xv_getP (ci := 8) (j := 1) hY dX8_lay_99 rfl rfl rfl (by decide) hin8 (by decide) rfl (List.mem_of_getElem? (i := 6) rfl) (fun v20 => ?_)
            refine xv_iload_n rfl rfl hY dX8_lay_102 rfl ?_
            refine xv_aload_n rfl rfl hY dX8_lay_103 rfl ?_
            refine xv_getP (ci := 8) (j := 4) hY dX8_lay_104 rfl rfl rfl (by decide) hin8 (by decide) rfl (List.mem_of_getElem? (i := 1) rfl) (fun v21 => ?_)
            refine xv_getI (ci := 10) (j := 3) hY dX8_lay_107 rfl rfl rfl (by decide) hin10 (by decide) rfl (List.mem_of_getElem? (i := 7) rfl) (fun v22 => ?_)
            refine xv_iast hY hfl dX8_lay_110 rfl (fun M23 => ?_)
            exact xv_vretu hY hfl dX8_lay_111 hret (Nat.le_of_ble_eq_true rfl) (Nat.le_of_ble_eq_true rfl)
          · refine xv_aload_n rfl rfl hY dX8_lay_69 rfl ?_
            refine xv_getP (ci := 8) (j := 4) hY dX8_lay_70 rfl rfl rfl (by decide) hin8 (by decide) rfl (List.mem_of_getElem? (i := 1) rfl) (fun v24 => ?_)
            refine xv_callVV (ci := 10) (y := yX10_goRight) (ws := wsX10_goRight) (rm := rm_X10_goRight) (mc := 0) (ms := 0) (n := 0) (av := []) hY dX8_lay_73 rfl rfl rfl (by decide) (fun q hq => by rw [hfl]; exact S_X10_goRight Y.1.2.1 v24 M12 q hq) (cwV 0 hY.2.2.2.2.1 gX8_lay_X10_goRight rfl rfl rfl (by decide +kernel) ⟨(by rw [hR]; exact Nat.le_of_ble_eq_true rfl), (by rw [hR]; exact Nat.le_of_ble_eq_true rfl)⟩) rfl (Nat.le_of_ble_eq_true rfl) ⟨(by rw [hR]; exact Nat.le_of_ble_eq_true rfl), (by rw [hR]; exact Nat.le_of_ble_eq_true rfl)⟩ (fun _ M25 => ?_)
            refine xv_goto (pc' := 112) hY dX8_lay_76 (by decide) ?_
            exact xv_mk (L' := [some (xr a0), some (xi a1), some (xi a2), some (xi a3), some (xi x3.1), none]) [true, true, true, true, true, false] rfl (hj14 M25)
        · refine xv_aload_n rfl rfl hY dX8_lay_53 rfl ?_
          refine xv_getP (ci := 8) (j := 4) hY dX8_lay_54 rfl rfl rfl (by decide) hin8 (by decide) rfl (List.mem_of_getElem? (i := 1) rfl) (fun v26 => ?_)
          refine xv_callVV (ci := 10) (y := yX10_goLeft) (ws := wsX10_goLeft) (rm := rm_X10_goLeft) (mc := 0) (ms := 0) (n := 0) (av := []) hY dX8_lay_57 rfl rfl rfl (by decide) (fun q hq => by rw [hfl]; exact S_X10_goLeft Y.1.2.1 v26 M12 q hq) (cwV 0 hY.2.2.2.2.1 gX8_lay_X10_goLeft rfl rfl rfl (by decide +kernel) ⟨(by rw [hR]; exact Nat.le_of_ble_eq_true rfl), (by rw [hR]; exact Nat.le_of_ble_eq_true rfl)⟩) rfl (Nat.le_of_ble_eq_true rfl) ⟨(by rw [hR]; exact Nat.le_of_ble_eq_true rfl), (by rw [hR]; exact Nat.le_of_ble_eq_true rfl)⟩ (fun _ M27 => ?_)
          refine xv_goto (pc' := 112) hY dX8_lay_60 (by decide) ?_
          exact xv_mk (L' := [some (xr a0), some (xi a1), some (xi a2), some (xi a3), some (xi x3.1), none]) [true, true, true, true, true, false] rfl (hj14 M27)
set_option maxHeartbeats 4000000 in
set_option maxRecDepth 100000 in
theorem S_X8_build (l : Launch) (a0 : Nat) (a1 : Nat) (M : xv_M) (q : Unit × xv_M) (h : D_X8_build a0 a1 M = some q) : xv_Met l yX8_build wsX8_build rm_X8_build 0 0 false [xr a0, xr a1] M (xv_qV false q) := by
  refine xv_enter (cc := cX8_build) (nL := 3) (ret := none) rfl (by decide +kernel) (Nat.le_of_ble_eq_true rfl) h ?_
  intro Y hY0 hl hR hnL hfl hret hnm0
  have hY : xv_ok Y cX8_build wsX8_build RX8 := hY0
  have hin5 : ∀ w ∈ u_ws RX5 TX5 8, w ∈ wsX8_build := fun _ h => List.mem_cons_of_mem _ (List.mem_append_left _ (List.mem_append_right _ h))
  have hin8 : ∀ w ∈ u_ws RX8 TX8 5, w ∈ wsX8_build := fun _ h => List.mem_cons_of_mem _ (List.mem_append_left _ (List.mem_append_left _ (List.mem_append_right _ h)))
  unfold D_X8_build
  refine xv_mk (L' := [some (xr a0), some (xr a1), none]) [true, true, true] rfl ?_
  refine xv_aload_n rfl rfl hY dX8_build_0 rfl ?_
  refine xv_getP (ci := 8) (j := 2) hY dX8_build_1 rfl rfl rfl (by decide) hin8 (by decide) rfl (List.mem_of_getElem? (i := 1) rfl) (fun v1 => ?_)
  refine xv_iconst hY dX8_build_4 rfl ?_
  refine xv_callSV (y := yJ7_fill_53178) (ws := wsJ7_fill_53178) (rm := rm_J7_fill_53178) (mc := 0) (ms := 0) (n := 2) (av := [xr v1, xi (0 : Int)]) hY dX8_build_5 rfl rfl (fun q hq => by rw [hfl]; exact S_J7_fill_53178 Y.1.2.1 v1 (0 : Int) M q hq) (va_cwS 2 hY.2.2.2.2.1 gX8_build_J7_fill_53178 rfl rfl rfl (by decide +kernel) ⟨(by rw [hR]; exact Nat.le_of_ble_eq_true rfl), (by rw [hR]; exact Nat.le_of_ble_eq_true rfl)⟩) rfl (Nat.le_of_ble_eq_true rfl) ⟨(by rw [hR]; exact Nat.le_of_ble_eq_true rfl), (by rw [hR]; exact Nat.le_of_ble_eq_true rfl)⟩ (fun _ M2 => ?_)
  refine xv_aload_n rfl rfl hY dX8_build_8 rfl ?_
  refine xv_getP (ci := 8) (j := 3) hY dX8_build_9 rfl rfl rfl (by decide) hin8 (by decide) rfl (List.mem_of_getElem? (i := 2) rfl) (fun v3 => ?_)
  refine xv_iconst hY dX8_build_12 rfl ?_
  refine xv_callSV (y := yJ7_fill_53178) (ws := wsJ7_fill_53178) (rm := rm_J7_fill_53178) (mc := 0) (ms := 0) (n := 2) (av := [xr v3, xi (0 : Int)]) hY dX8_build_13 rfl rfl (fun q hq => by rw [hfl]; exact S_J7_fill_53178 Y.1.2.1 v3 (0 : Int) M2 q hq) (va_cwS 2 hY.2.2.2.2.1 gX8_build_J7_fill_53178 rfl rfl rfl (by decide +kernel) ⟨(by rw [hR]; exact Nat.le_of_ble_eq_true rfl), (by rw [hR]; exact Nat.le_of_ble_eq_true rfl)⟩) rfl (Nat.le_of_ble_eq_true rfl) ⟨(by rw [hR]; exact Nat.le_of_ble_eq_true rfl), (by rw [hR]; exact Nat.le_of_ble_eq_true rfl)⟩ (fun _ M4 => ?_)
  refine xv_iconst hY dX8_build_16 rfl ?_
  refine xv_istore_n (L' := [some (xr a0), some (xr a1), some (xi (0 : Int))]) hY dX8_build_17 rfl rfl (by rw [hnL]; decide) rfl rfl ?_
  refine xv_mk (L' := [some (xr a0), some (xr a1), some (xi (0 : Int))]) [true, true, true] rfl ?_
  refine xv_loop (σ := Int × xv_M) (fun x5 => [some (xr a0), some (xr a1), some (xi x5.1)]) (fun x5 => x5.2) (fun f6 hf6 x5 => ?_) xv_fuel ((0 : Int), M4)
  refine xv_iload_n rfl rfl hY dX8_build_18 rfl ?_
  refine xv_aload_n rfl rfl hY dX8_build_19 rfl ?_
  refine xv_getI (ci := 5) (j := 0) hY dX8_build_20 rfl rfl rfl (by decide) hin5 (by decide) rfl (List.mem_of_getElem? (i := 3) rfl) (fun v7 => ?_)
  refine xv_icmp_ge (t := 57) hY dX8_build_23 (by decide) rfl ?_ ?_
  · exact xv_vretu hY hfl dX8_build_57 hret (Nat.le_of_ble_eq_true rfl) (Nat.le_of_ble_eq_true rfl)
  · refine xv_aload_n rfl rfl hY dX8_build_26 rfl ?_
    refine xv_iload_n rfl rfl hY dX8_build_27 rfl ?_
    refine xv_callVI (ci := 5) (y := yX5_isThere) (ws := wsX5_isThere) (rm := rm_X5_isThere) (mc := 0) (ms := 0) (n := 1) (av := [xi x5.1]) hY dX8_build_28 rfl rfl rfl (by decide) (fun q hq => by rw [hfl]; exact S_X5_isThere Y.1.2.1 a1 x5.1 x5.2 q hq) (cwV 1 hY.2.2.2.2.1 gX8_build_X5_isThere rfl rfl rfl (by decide +kernel) ⟨(by rw [hR]; exact Nat.le_of_ble_eq_true rfl), (by rw [hR]; exact Nat.le_of_ble_eq_true rfl)⟩) rfl (Nat.le_of_ble_eq_true rfl) ⟨(by rw [hR]; exact Nat.le_of_ble_eq_true rfl), (by rw [hR]; exact Nat.le_of_ble_eq_true rfl)⟩ (fun z9 M8 => ?_)
    refine xv_join (α := xv_M) 51 (fun x10 => [some (xr a0), some (xr a1), some (xi x5.1)]) (fun x10 => []) (fun x10 => x10) (fun x10 => ?_) (fun j11 hj11 => ?_)
    · refine xv_iinc (L' := [some (xr a0), some (xr a1), some (xi (x5.1 + 1))]) hY dX8_build_51 rfl (by rw [hnL]; decide) rfl rfl rfl ?_
      refine xv_goto (pc' := 18) hY dX8_build_54 (by decide) ?_
      exact xv_mk (L' := [some (xr a0), some (xr a1), some (xi (x5.1 + 1))]) [true, true, true] rfl (hf6 ((x5.1 + 1), x10))
    · refine xv_if_eq (t := 51) hY dX8_build_31 (by decide) rfl ?_ ?_
      · exact xv_mk (L' := [some (xr a0), some (xr a1), some (xi x5.1)]) [true, true, true] rfl (hj11 M8)
      · refine xv_aload_n rfl rfl hY dX8_build_34 rfl ?_
        refine xv_iload_n rfl rfl hY dX8_build_35 rfl ?_
        refine xv_aload_n rfl rfl hY dX8_build_36 rfl ?_
        refine xv_getP (ci := 5) (j := 4) hY dX8_build_37 rfl rfl rfl (by decide) hin5 (by decide) rfl (List.mem_of_getElem? (i := 4) rfl) (fun v12 => ?_)
        refine xv_iload_n rfl rfl hY dX8_build_40 rfl ?_
        refine xv_iald hY dX8_build_41 rfl (fun v13 => ?_)
        refine xv_aload_n rfl rfl hY dX8_build_42 rfl ?_
        refine xv_getP (ci := 5) (j := 5) hY dX8_build_43 rfl rfl rfl (by decide) hin5 (by decide) rfl (List.mem_of_getElem? (i := 5) rfl) (fun v14 => ?_)
        refine xv_iload_n rfl rfl hY dX8_build_46 rfl ?_
        refine xv_iald hY dX8_build_47 rfl (fun v15 => ?_)
        refine xv_callVV (ci := 8) (y := yX8_lay) (ws := wsX8_lay) (rm := rm_X8_lay) (mc := 0) (ms := 0) (n := 3) (av := [xi x5.1, xi v13, xi v15]) hY dX8_build_48 rfl rfl rfl (by decide) (fun q hq => by rw [hfl]; exact S_X8_lay Y.1.2.1 a0 x5.1 v13 v15 M8 q hq) (cwV 3 hY.2.2.2.2.1 gX8_build_X8_lay rfl rfl rfl (by decide +kernel) ⟨(by rw [hR]; exact Nat.le_of_ble_eq_true rfl), (by rw [hR]; exact Nat.le_of_ble_eq_true rfl)⟩) rfl (Nat.le_of_ble_eq_true rfl) ⟨(by rw [hR]; exact Nat.le_of_ble_eq_true rfl), (by rw [hR]; exact Nat.le_of_ble_eq_true rfl)⟩ (fun _ M16 => ?_)
        exact xv_mk (L' := [some (xr a0), some (xr a1), some (xi x5.1)]) [true, true, true] rfl (hj11 M16)
set_option maxHeartbeats 4000000 in
set_option maxRecDepth 100000 in
theorem S_X2_layOut (l : Launch) (a0 : Nat) (M : xv_M) (q : Unit × xv_M) (h : D_X2_layOut a0 M = some q) : xv_Met l yX2_layOut wsX2_layOut rm_X2_layOut 0 0 false [xr a0] M (xv_qV false q) := by
  refine xv_enter (cc := cX2_layOut) (nL := 1) (ret := none) rfl (by decide +kernel) (Nat.le_of_ble_eq_true rfl) h ?_
  intro Y hY0 hl hR hnL hfl hret hnm0
  have hY : xv_ok Y cX2_layOut wsX2_layOut RX2 := hY0
  have hin2 : ∀ w ∈ u_ws RX2 TX2 3, w ∈ wsX2_layOut := fun _ h => List.mem_cons_of_mem _ (List.mem_append_left _ (List.mem_append_left _ (List.mem_append_left _ (List.mem_append_left _ (List.mem_append_left _ (List.mem_append_right _ h))))))
  have hin6 : ∀ w ∈ u_ws RX6 TX6 4, w ∈ wsX2_layOut := fun _ h => List.mem_cons_of_mem _ (List.mem_append_left _ (List.mem_append_left _ (List.mem_append_left _ (List.mem_append_left _ (List.mem_append_right _ h)))))
  unfold D_X2_layOut
  refine xv_mk (L' := [some (xr a0)]) [true] rfl ?_
  refine xv_aload_n rfl rfl hY dX2_layOut_0 rfl ?_
  refine xv_getP (ci := 2) (j := 1) hY dX2_layOut_1 rfl rfl rfl (by decide) hin2 (by decide) rfl (List.mem_of_getElem? (i := 1) rfl) (fun v1 => ?_)
  refine xv_aload_n rfl rfl hY dX2_layOut_4 rfl ?_
  refine xv_getP (ci := 2) (j := 0) hY dX2_layOut_5 rfl rfl rfl (by decide) hin2 (by decide) rfl (List.mem_of_getElem? (i := 2) rfl) (fun v2 => ?_)
  refine xv_getP (ci := 6) (j := 1) hY dX2_layOut_8 rfl rfl rfl (by decide) hin6 (by decide) rfl (List.mem_of_getElem? (i := 3) rfl) (fun v3 => ?_)
  refine xv_callVV (ci := 0) (y := yX0_build) (ws := wsX0_build) (rm := rm_X0_build) (mc := 0) (ms := 0) (n := 1) (av := [xr v3]) hY dX2_layOut_11 rfl rfl rfl (by decide) (fun q hq => by rw [hfl]; exact S_X0_build Y.1.2.1 v1 v3 M q hq) (cwV 1 hY.2.2.2.2.1 gX2_layOut_X0_build rfl rfl rfl (by decide +kernel) ⟨(by rw [hR]; exact Nat.le_of_ble_eq_true rfl), (by rw [hR]; exact Nat.le_of_ble_eq_true rfl)⟩) rfl (Nat.le_of_ble_eq_true rfl) ⟨(by rw [hR]; exact Nat.le_of_ble_eq_true rfl), (by rw [hR]; exact Nat.le_of_ble_eq_true rfl)⟩ (fun _ M4 => ?_)
  refine xv_aload_n rfl rfl hY dX2_layOut_14 rfl ?_
  refine xv_getP (ci := 2) (j := 2) hY dX2_layOut_15 rfl rfl rfl (by decide) hin2 (by decide) rfl (List.mem_of_getElem? (i := 4) rfl) (fun v5 => ?_)
  refine xv_aload_n rfl rfl hY dX2_layOut_18 rfl ?_
  refine xv_getP (ci := 2) (j := 0) hY dX2_layOut_19 rfl rfl rfl (by decide) hin2 (by decide) rfl (List.mem_of_getElem? (i := 2) rfl) (fun v6 => ?_)
  refine xv_getP (ci := 6) (j := 1) hY dX2_layOut_22 rfl rfl rfl (by decide) hin6 (by decide) rfl (List.mem_of_getElem? (i := 3) rfl) (fun v7 => ?_)
  refine xv_callVV (ci := 8) (y := yX8_build) (ws := wsX8_build) (rm := rm_X8_build) (mc := 0) (ms := 0) (n := 1) (av := [xr v7]) hY dX2_layOut_25 rfl rfl rfl (by decide) (fun q hq => by rw [hfl]; exact S_X8_build Y.1.2.1 v5 v7 M4 q hq) (cwV 1 hY.2.2.2.2.1 gX2_layOut_X8_build rfl rfl rfl (by decide +kernel) ⟨(by rw [hR]; exact Nat.le_of_ble_eq_true rfl), (by rw [hR]; exact Nat.le_of_ble_eq_true rfl)⟩) rfl (Nat.le_of_ble_eq_true rfl) ⟨(by rw [hR]; exact Nat.le_of_ble_eq_true rfl), (by rw [hR]; exact Nat.le_of_ble_eq_true rfl)⟩ (fun _ M8 => ?_)
  exact xv_vretu hY hfl dX2_layOut_28 hret (Nat.le_of_ble_eq_true rfl) (Nat.le_of_ble_eq_true rfl)
set_option maxHeartbeats 4000000 in
set_option maxRecDepth 100000 in
theorem S_X2_become (l : Launch) (a0 : Nat) (a1 : Nat) (M : xv_M) (q : Unit × xv_M) (h : D_X2_become a0 a1 M = some q) : xv_Met l yX2_become wsX2_become rm_X2_become 0 0 false [xr a0, xr a1] M (xv_qV false q) := by
  refine xv_enter (cc := cX2_become) (nL := 2) (ret := none) rfl (by decide +kernel) (Nat.le_of_ble_eq_true rfl) h ?_
  intro Y hY0 hl hR hnL hfl hret hnm0
  have hY : xv_ok Y cX2_become wsX2_become RX2 := hY0
  have hin2 : ∀ w ∈ u_ws RX2 TX2 3, w ∈ wsX2_become := fun _ h => List.mem_cons_of_mem _ (List.mem_append_left _ (List.mem_append_left _ (List.mem_append_left _ (List.mem_append_left _ (List.mem_append_left _ (List.mem_append_left _ (List.mem_append_left _ (List.mem_append_right _ h))))))))
  unfold D_X2_become
  refine xv_mk (L' := [some (xr a0), some (xr a1)]) [true, true] rfl ?_
  refine xv_aload_n rfl rfl hY dX2_become_0 rfl ?_
  refine xv_getP (ci := 2) (j := 0) hY dX2_become_1 rfl rfl rfl (by decide) hin2 (by decide) rfl (List.mem_of_getElem? (i := 1) rfl) (fun v1 => ?_)
  refine xv_aload_n rfl rfl hY dX2_become_4 rfl ?_
  refine xv_callVV (ci := 6) (y := yX6_copyFrom) (ws := wsX6_copyFrom) (rm := rm_X6_copyFrom) (mc := 0) (ms := 0) (n := 1) (av := [xr a1]) hY dX2_become_5 rfl rfl rfl (by decide) (fun q hq => by rw [hfl]; exact S_X6_copyFrom Y.1.2.1 v1 a1 M q hq) (cwV 1 hY.2.2.2.2.1 gX2_become_X6_copyFrom rfl rfl rfl (by decide +kernel) ⟨(by rw [hR]; exact Nat.le_of_ble_eq_true rfl), (by rw [hR]; exact Nat.le_of_ble_eq_true rfl)⟩) rfl (Nat.le_of_ble_eq_true rfl) ⟨(by rw [hR]; exact Nat.le_of_ble_eq_true rfl), (by rw [hR]; exact Nat.le_of_ble_eq_true rfl)⟩ (fun _ M2 => ?_)
  refine xv_aload_n rfl rfl hY dX2_become_8 rfl ?_
  refine xv_callVV (ci := 2) (y := yX2_layOut) (ws := wsX2_layOut) (rm := rm_X2_layOut) (mc := 0) (ms := 0) (n := 0) (av := []) hY dX2_become_9 rfl rfl rfl (by decide) (fun q hq => by rw [hfl]; exact S_X2_layOut Y.1.2.1 a0 M2 q hq) (cwV 0 hY.2.2.2.2.1 gX2_become_X2_layOut rfl rfl rfl (by decide +kernel) ⟨(by rw [hR]; exact Nat.le_of_ble_eq_true rfl), (by rw [hR]; exact Nat.le_of_ble_eq_true rfl)⟩) rfl (Nat.le_of_ble_eq_true rfl) ⟨(by rw [hR]; exact Nat.le_of_ble_eq_true rfl), (by rw [hR]; exact Nat.le_of_ble_eq_true rfl)⟩ (fun _ M3 => ?_)
  exact xv_vretu hY hfl dX2_become_12 hret (Nat.le_of_ble_eq_true rfl) (Nat.le_of_ble_eq_true rfl)
set_option maxHeartbeats 4000000 in
set_option maxRecDepth 100000 in
theorem S_X5_append (l : Launch) (a0 : Nat) (a1 : Int) (a2 : Int) (a3 : Int) (a4 : Int) (M : xv_M) (q : Int × xv_M) (h : D_X5_append a0 a1 a2 a3 a4 M = some q) : xv_Met l yX5_append wsX5_append rm_X5_append 0 0 false [xr a0, xi a1, xi a2, xi a3, xi a4] M (xv_qI false q) := by
  refine xv_enter (cc := cX5_append) (nL := 6) (ret := (some .int)) rfl (by decide +kernel) (Nat.le_of_ble_eq_true rfl) h ?_
  intro Y hY0 hl hR hnL hfl hret hnm0
  have hY : xv_ok Y cX5_append wsX5_append RX5 := hY0
  have hin5 : ∀ w ∈ u_ws RX5 TX5 8, w ∈ wsX5_append := fun _ h => List.mem_cons_of_mem _ (List.mem_append_right _ h)
  unfold D_X5_append
  refine xv_mk (L' := [some (xr a0), some (xi a1), some (xi a2), some (xi a3), some (xi a4), none]) [true, true, true, true, true, true] rfl ?_
  refine xv_aload_n rfl rfl hY dX5_append_0 rfl ?_
  refine xv_getI (ci := 5) (j := 0) hY dX5_append_1 rfl rfl rfl (by decide) hin5 (by decide) rfl (List.mem_of_getElem? (i := 1) rfl) (fun v1 => ?_)
  refine xv_bipush (by decide) hY dX5_append_4 rfl ?_
  refine xv_icmp_lt (t := 12) hY dX5_append_6 (by decide) rfl ?_ ?_
  · refine xv_aload_n rfl rfl hY dX5_append_12 rfl ?_
    refine xv_getI (ci := 5) (j := 0) hY dX5_append_13 rfl rfl rfl (by decide) hin5 (by decide) rfl (List.mem_of_getElem? (i := 1) rfl) (fun v2 => ?_)
    refine xv_istore (L' := [some (xr a0), some (xi a1), some (xi a2), some (xi a3), some (xi a4), some (xi v2)]) hY dX5_append_16 rfl (by rw [hnL]; decide) rfl rfl ?_
    refine xv_aload_n rfl rfl hY dX5_append_18 rfl ?_
    refine xv_dupr hY dX5_append_19 rfl ?_
    refine xv_getI (ci := 5) (j := 0) hY dX5_append_20 rfl rfl rfl (by decide) hin5 (by decide) rfl (List.mem_of_getElem? (i := 1) rfl) (fun v3 => ?_)
    refine xv_iconst hY dX5_append_23 rfl ?_
    refine xv_iadd hY dX5_append_24 rfl ?_
    refine xv_putI (ci := 5) (j := 0) hY dX5_append_25 rfl rfl rfl (by decide) hin5 (by decide) rfl (List.mem_of_getElem? (i := 1) rfl) tyX5_ok nmX5 (Or.inl rfl) rfl (fun M4 => ?_)
    refine xv_aload_n rfl rfl hY dX5_append_28 rfl ?_
    refine xv_dupr hY dX5_append_29 rfl ?_
    refine xv_getJ (ci := 5) (j := 1) hY dX5_append_30 rfl rfl rfl (by decide) hin5 (by decide) rfl (List.mem_of_getElem? (i := 2) rfl) (fun v5 => ?_)
    refine xv_lconst (v := 1) rfl hY dX5_append_33 rfl ?_
    refine xv_iload rfl hY dX5_append_34 rfl ?_
    refine xv_lshl hY dX5_append_36 rfl ?_
    refine xv_lor hY dX5_append_37 rfl ?_
    refine xv_putJ (ci := 5) (j := 1) hY dX5_append_38 rfl rfl rfl (by decide) hin5 (by decide) rfl (List.mem_of_getElem? (i := 2) rfl) tyX5_ok nmX5 (Or.inl rfl) rfl (fun M6 => ?_)
    refine xv_aload_n rfl rfl hY dX5_append_41 rfl ?_
    refine xv_getP (ci := 5) (j := 2) hY dX5_append_42 rfl rfl rfl (by decide) hin5 (by decide) rfl (List.mem_of_getElem? (i := 3) rfl) (fun v7 => ?_)
    refine xv_iload rfl hY dX5_append_45 rfl ?_
    refine xv_iload_n rfl rfl hY dX5_append_47 rfl ?_
    refine xv_iast hY hfl dX5_append_48 rfl (fun M8 => ?_)
    refine xv_aload_n rfl rfl hY dX5_append_49 rfl ?_
    refine xv_getP (ci := 5) (j := 3) hY dX5_append_50 rfl rfl rfl (by decide) hin5 (by decide) rfl (List.mem_of_getElem? (i := 4) rfl) (fun v9 => ?_)
    refine xv_iload rfl hY dX5_append_53 rfl ?_
    refine xv_iload_n rfl rfl hY dX5_append_55 rfl ?_
    refine xv_iast hY hfl dX5_append_56 rfl (fun M10 => ?_)
    refine xv_aload_n rfl rfl hY dX5_append_57 rfl ?_
    refine xv_getP (ci := 5) (j := 4) hY dX5_append_58 rfl rfl rfl (by decide) hin5 (by decide) rfl (List.mem_of_getElem? (i := 5) rfl) (fun v11 => ?_)
    refine xv_iload rfl hY dX5_append_61 rfl ?_
    refine xv_iload_n rfl rfl hY dX5_append_63 rfl ?_
    refine xv_join (α := Nat × Int × Int) 74 (fun x12 => [some (xr a0), none, some (xi a2), none, some (xi a4), some (xi v2)]) (fun x12 => [xi x12.2.2, xi x12.2.1, xr x12.1]) (fun x12 => M10) (fun x12 => ?_) (fun j13 hj13 => ?_)
    · refine xv_iast hY hfl dX5_append_74 rfl (fun M14 => ?_)
      refine xv_aload_n rfl rfl hY dX5_append_75 rfl ?_
      refine xv_getP (ci := 5) (j := 5) hY dX5_append_76 rfl rfl rfl (by decide) hin5 (by decide) rfl (List.mem_of_getElem? (i := 6) rfl) (fun v15 => ?_)
      refine xv_iload rfl hY dX5_append_79 rfl ?_
      refine xv_iload rfl hY dX5_append_81 rfl ?_
      refine xv_if_eq (t := 90) hY dX5_append_83 (by decide) rfl ?_ ?_
      · refine xv_iload_n rfl rfl hY dX5_append_90 rfl ?_
        refine xv_iconst hY dX5_append_91 rfl ?_
        refine xv_isub hY dX5_append_92 rfl ?_
        refine xv_iast hY hfl dX5_append_93 rfl (fun M16 => ?_)
        refine xv_iload rfl hY dX5_append_94 rfl ?_
        exact xv_ireti hY hfl dX5_append_96 hret (Nat.le_of_ble_eq_true rfl) (Nat.le_of_ble_eq_true rfl)
      · refine xv_iload_n rfl rfl hY dX5_append_86 rfl ?_
        refine xv_goto (pc' := 93) hY dX5_append_87 (by decide) ?_
        refine xv_iast hY hfl dX5_append_93 rfl (fun M17 => ?_)
        refine xv_iload rfl hY dX5_append_94 rfl ?_
        exact xv_ireti hY hfl dX5_append_96 hret (Nat.le_of_ble_eq_true rfl) (Nat.le_of_ble_eq_true rfl)
    · refine xv_if_eq (t := 71) hY dX5_append_64 (by decide) rfl ?_ ?_
      · refine xv_iload_n rfl rfl hY dX5_append_71 rfl ?_
        refine xv_iconst hY dX5_append_72 rfl ?_
        refine xv_iadd hY dX5_append_73 rfl ?_
        exact xv_mk (L' := [some (xr a0), none, some (xi a2), none, some (xi a4), some (xi v2)]) [true, false, true, false, true, true] rfl (hj13 (v11, v2, (a1 + (1 : Int))))
      · refine xv_iload_n rfl rfl hY dX5_append_67 rfl ?_
        refine xv_goto (pc' := 74) hY dX5_append_68 (by decide) ?_
        exact xv_mk (L' := [some (xr a0), none, some (xi a2), none, some (xi a4), some (xi v2)]) [true, false, true, false, true, true] rfl (hj13 (v11, v2, a1))
  · refine xv_bipush (by decide) hY dX5_append_9 rfl ?_
    exact xv_ireti hY hfl dX5_append_11 hret (Nat.le_of_ble_eq_true rfl) (Nat.le_of_ble_eq_true rfl)
set_option maxHeartbeats 4000000 in
set_option maxRecDepth 100000 in
theorem S_J9_floorMod_7cf53 (l : Launch) (a0 : Int) (a1 : Int) (M : xv_M) (q : Int × xv_M) (h : D_J9_floorMod_7cf53 a0 a1 M = some q) : xv_Met l yJ9_floorMod_7cf53 wsJ9_floorMod_7cf53 rm_J9_floorMod_7cf53 0 0 false [xi a0, xi a1] M (xv_qI false q) := by
  refine xv_enterF (cc := cJ9_floorMod_7cf53) (nL := 3) (ret := (some .int)) rfl (by decide +kernel) (Nat.le_of_ble_eq_true rfl) h ?_
  intro Y hY0 hl hR hnL hfl hret hnm0
  have hY : xv_ok Y cJ9_floorMod_7cf53 wsJ9_floorMod_7cf53 RJ9 := hY0
  unfold D_J9_floorMod_7cf53
  refine xv_mk (L' := [some (xi a0), some (xi a1), none]) [true, true, true] rfl ?_
  refine xv_iload_n rfl rfl hY dJ9_floorMod_7cf53_0 rfl ?_
  refine xv_iload_n rfl rfl hY dJ9_floorMod_7cf53_1 rfl ?_
  refine xv_irem hY dJ9_floorMod_7cf53_2 rfl ?_
  refine xv_istore_n (L' := [some (xi a0), some (xi a1), some (xi ((Int32.ofInt a0 - Int32.ofInt a0 / Int32.ofInt a1 * Int32.ofInt a1).toInt))]) hY dJ9_floorMod_7cf53_3 rfl rfl (by rw [hnL]; decide) rfl rfl ?_
  refine xv_iload_n rfl rfl hY dJ9_floorMod_7cf53_4 rfl ?_
  refine xv_iload_n rfl rfl hY dJ9_floorMod_7cf53_5 rfl ?_
  refine xv_ixor hY dJ9_floorMod_7cf53_6 rfl ?_
  refine xv_if_ge (t := 18) hY dJ9_floorMod_7cf53_7 (by decide) rfl ?_ ?_
  · refine xv_iload_n rfl rfl hY dJ9_floorMod_7cf53_18 rfl ?_
    exact xv_ireti hY hfl dJ9_floorMod_7cf53_19 hret (Nat.le_of_ble_eq_true rfl) (Nat.le_of_ble_eq_true rfl)
  · refine xv_iload_n rfl rfl hY dJ9_floorMod_7cf53_10 rfl ?_
    refine xv_if_eq (t := 18) hY dJ9_floorMod_7cf53_11 (by decide) rfl ?_ ?_
    · refine xv_iload_n rfl rfl hY dJ9_floorMod_7cf53_18 rfl ?_
      exact xv_ireti hY hfl dJ9_floorMod_7cf53_19 hret (Nat.le_of_ble_eq_true rfl) (Nat.le_of_ble_eq_true rfl)
    · refine xv_iload_n rfl rfl hY dJ9_floorMod_7cf53_14 rfl ?_
      refine xv_iload_n rfl rfl hY dJ9_floorMod_7cf53_15 rfl ?_
      refine xv_iadd hY dJ9_floorMod_7cf53_16 rfl ?_
      exact xv_ireti hY hfl dJ9_floorMod_7cf53_17 hret (Nat.le_of_ble_eq_true rfl) (Nat.le_of_ble_eq_true rfl)
set_option maxHeartbeats 4000000 in
set_option maxRecDepth 100000 in
theorem S_X3_write (l : Launch) (a0 : Nat) (a1 : Int) (a2 : Int) (a3 : Int) (a4 : Int) (M : xv_M) (q : Unit × xv_M) (h : D_X3_write a0 a1 a2 a3 a4 M = some q) : xv_Met l yX3_write wsX3_write rm_X3_write 0 0 false [xr a0, xi a1, xi a2, xi a3, xi a4] M (xv_qV false q) := by
  refine xv_enter (cc := cX3_write) (nL := 5) (ret := none) rfl (by decide +kernel) (Nat.le_of_ble_eq_true rfl) h ?_
  intro Y hY0 hl hR hnL hfl hret hnm0
  have hY : xv_ok Y cX3_write wsX3_write RX3 := hY0
  have hin3 : ∀ w ∈ u_ws RX3 TX3 6, w ∈ wsX3_write := fun _ h => List.mem_cons_of_mem _ (List.mem_append_right _ h)
  unfold D_X3_write
  refine xv_mk (L' := [some (xr a0), some (xi a1), some (xi a2), some (xi a3), some (xi a4)]) [true, true, true, true, true] rfl ?_
  refine xv_aload_n rfl rfl hY dX3_write_0 rfl ?_
  refine xv_aload_n rfl rfl hY dX3_write_1 rfl ?_
  refine xv_getI (ci := 3) (j := 1) hY dX3_write_2 rfl rfl rfl (by decide) hin3 (by decide) rfl (List.mem_of_getElem? (i := 1) rfl) (fun v1 => ?_)
  refine xv_iconst hY dX3_write_5 rfl ?_
  refine xv_iadd hY dX3_write_6 rfl ?_
  refine xv_bipush (by decide) hY dX3_write_7 rfl ?_
  refine xv_callSI (y := yJ9_floorMod_7cf53) (ws := wsJ9_floorMod_7cf53) (rm := rm_J9_floorMod_7cf53) (mc := 0) (ms := 0) (n := 2) (av := [xi (v1 + (1 : Int)), xi (12 : Int)]) hY dX3_write_9 rfl rfl (fun q hq => by rw [hfl]; exact S_J9_floorMod_7cf53 Y.1.2.1 (v1 + (1 : Int)) (12 : Int) M q hq) (va_cwS 2 hY.2.2.2.2.1 gX3_write_J9_floorMod_7cf53 rfl rfl rfl (by decide +kernel) ⟨(by rw [hR]; exact Nat.le_of_ble_eq_true rfl), (by rw [hR]; exact Nat.le_of_ble_eq_true rfl)⟩) rfl (Nat.le_of_ble_eq_true rfl) ⟨(by rw [hR]; exact Nat.le_of_ble_eq_true rfl), (by rw [hR]; exact Nat.le_of_ble_eq_true rfl)⟩ (fun z3 M2 => ?_)
  refine xv_putI (ci := 3) (j := 1) hY dX3_write_12 rfl rfl rfl (by decide) hin3 (by decide) rfl (List.mem_of_getElem? (i := 1) rfl) tyX3_ok nmX3 (Or.inl rfl) rfl (fun M4 => ?_)
  refine xv_aload_n rfl rfl hY dX3_write_15 rfl ?_
  refine xv_getP (ci := 3) (j := 2) hY dX3_write_16 rfl rfl rfl (by decide) hin3 (by decide) rfl (List.mem_of_getElem? (i := 2) rfl) (fun v5 => ?_)
  refine xv_aload_n rfl rfl hY dX3_write_19 rfl ?_
  refine xv_getI (ci := 3) (j := 1) hY dX3_write_20 rfl rfl rfl (by decide) hin3 (by decide) rfl (List.mem_of_getElem? (i := 1) rfl) (fun v6 => ?_)
  refine xv_iload_n rfl rfl hY dX3_write_23 rfl ?_
  refine xv_iast hY hfl dX3_write_24 rfl (fun M7 => ?_)
  refine xv_aload_n rfl rfl hY dX3_write_25 rfl ?_
  refine xv_getP (ci := 3) (j := 3) hY dX3_write_26 rfl rfl rfl (by decide) hin3 (by decide) rfl (List.mem_of_getElem? (i := 3) rfl) (fun v8 => ?_)
  refine xv_aload_n rfl rfl hY dX3_write_29 rfl ?_
  refine xv_getI (ci := 3) (j := 1) hY dX3_write_30 rfl rfl rfl (by decide) hin3 (by decide) rfl (List.mem_of_getElem? (i := 1) rfl) (fun v9 => ?_)
  refine xv_iload_n rfl rfl hY dX3_write_33 rfl ?_
  refine xv_iast hY hfl dX3_write_34 rfl (fun M10 => ?_)
  refine xv_aload_n rfl rfl hY dX3_write_35 rfl ?_
  refine xv_getP (ci := 3) (j := 4) hY dX3_write_36 rfl rfl rfl (by decide) hin3 (by decide) rfl (List.mem_of_getElem? (i := 4) rfl) (fun v11 => ?_)
  refine xv_aload_n rfl rfl hY dX3_write_39 rfl ?_
  refine xv_getI (ci := 3) (j := 1) hY dX3_write_40 rfl rfl rfl (by decide) hin3 (by decide) rfl (List.mem_of_getElem? (i := 1) rfl) (fun v12 => ?_)
  refine xv_iload_n rfl rfl hY dX3_write_43 rfl ?_
  refine xv_iast hY hfl dX3_write_44 rfl (fun M13 => ?_)
  refine xv_aload_n rfl rfl hY dX3_write_45 rfl ?_
  refine xv_getP (ci := 3) (j := 5) hY dX3_write_46 rfl rfl rfl (by decide) hin3 (by decide) rfl (List.mem_of_getElem? (i := 5) rfl) (fun v14 => ?_)
  refine xv_aload_n rfl rfl hY dX3_write_49 rfl ?_
  refine xv_getI (ci := 3) (j := 1) hY dX3_write_50 rfl rfl rfl (by decide) hin3 (by decide) rfl (List.mem_of_getElem? (i := 1) rfl) (fun v15 => ?_)
  refine xv_iload rfl hY dX3_write_53 rfl ?_
  refine xv_iast hY hfl dX3_write_55 rfl (fun M16 => ?_)
  refine xv_aload_n rfl rfl hY dX3_write_56 rfl ?_
  refine xv_getI (ci := 3) (j := 0) hY dX3_write_57 rfl rfl rfl (by decide) hin3 (by decide) rfl (List.mem_of_getElem? (i := 6) rfl) (fun v17 => ?_)
  refine xv_bipush (by decide) hY dX3_write_60 rfl ?_
  refine xv_icmp_ge (t := 75) hY dX3_write_62 (by decide) rfl ?_ ?_
  · exact xv_vretu hY hfl dX3_write_75 hret (Nat.le_of_ble_eq_true rfl) (Nat.le_of_ble_eq_true rfl)
  · refine xv_aload_n rfl rfl hY dX3_write_65 rfl ?_
    refine xv_dupr hY dX3_write_66 rfl ?_
    refine xv_getI (ci := 3) (j := 0) hY dX3_write_67 rfl rfl rfl (by decide) hin3 (by decide) rfl (List.mem_of_getElem? (i := 6) rfl) (fun v18 => ?_)
    refine xv_iconst hY dX3_write_70 rfl ?_
    refine xv_iadd hY dX3_write_71 rfl ?_
    refine xv_putI (ci := 3) (j := 0) hY dX3_write_72 rfl rfl rfl (by decide) hin3 (by decide) rfl (List.mem_of_getElem? (i := 6) rfl) tyX3_ok nmX3 (Or.inl rfl) rfl (fun M19 => ?_)
    exact xv_vretu hY hfl dX3_write_75 hret (Nat.le_of_ble_eq_true rfl) (Nat.le_of_ble_eq_true rfl)
set_option maxHeartbeats 4000000 in
set_option maxRecDepth 100000 in
theorem S_X2_tellLeft (l : Launch) (a0 : Nat) (a1 : Int) (a2 : Int) (M : xv_M) (q : Unit × xv_M) (h : D_X2_tellLeft a0 a1 a2 M = some q) : xv_Met l yX2_tellLeft wsX2_tellLeft rm_X2_tellLeft 0 0 false [xr a0, xi a1, xi a2] M (xv_qV false q) := by
  refine xv_enter (cc := cX2_tellLeft) (nL := 3) (ret := none) rfl (by decide +kernel) (Nat.le_of_ble_eq_true rfl) h ?_
  intro Y hY0 hl hR hnL hfl hret hnm0
  have hY : xv_ok Y cX2_tellLeft wsX2_tellLeft RX2 := hY0
  have hin2 : ∀ w ∈ u_ws RX2 TX2 3, w ∈ wsX2_tellLeft := fun _ h => List.mem_cons_of_mem _ (List.mem_append_left _ (List.mem_append_left _ (List.mem_append_left _ (List.mem_append_right _ h))))
  have hin6 : ∀ w ∈ u_ws RX6 TX6 4, w ∈ wsX2_tellLeft := fun _ h => List.mem_cons_of_mem _ (List.mem_append_left _ (List.mem_append_left _ (List.mem_append_right _ h)))
  have hin9 : ∀ w ∈ u_ws RX9 TX9 9, w ∈ wsX2_tellLeft := fun _ h => List.mem_cons_of_mem _ (List.mem_append_left _ (List.mem_append_right _ h))
  unfold D_X2_tellLeft
  refine xv_mk (L' := [some (xr a0), some (xi a1), some (xi a2)]) [true, true, true] rfl ?_
  refine xv_aload_n rfl rfl hY dX2_tellLeft_0 rfl ?_
  refine xv_getP (ci := 2) (j := 0) hY dX2_tellLeft_1 rfl rfl rfl (by decide) hin2 (by decide) rfl (List.mem_of_getElem? (i := 1) rfl) (fun v1 => ?_)
  refine xv_getP (ci := 6) (j := 2) hY dX2_tellLeft_4 rfl rfl rfl (by decide) hin6 (by decide) rfl (List.mem_of_getElem? (i := 2) rfl) (fun v2 => ?_)
  refine xv_getP (ci := 9) (j := 5) hY dX2_tellLeft_7 rfl rfl rfl (by decide) hin9 (by decide) rfl (List.mem_of_getElem? (i := 3) rfl) (fun v3 => ?_)
  refine xv_iload_n rfl rfl hY dX2_tellLeft_10 rfl ?_
  refine xv_dup2 hY dX2_tellLeft_11 rfl ?_
  refine xv_iald hY dX2_tellLeft_12 rfl (fun v4 => ?_)
  refine xv_iconst hY dX2_tellLeft_13 rfl ?_
  refine xv_iadd hY dX2_tellLeft_14 rfl ?_
  refine xv_iast hY hfl dX2_tellLeft_15 rfl (fun M5 => ?_)
  refine xv_aload_n rfl rfl hY dX2_tellLeft_16 rfl ?_
  refine xv_getP (ci := 2) (j := 0) hY dX2_tellLeft_17 rfl rfl rfl (by decide) hin2 (by decide) rfl (List.mem_of_getElem? (i := 1) rfl) (fun v6 => ?_)
  refine xv_getP (ci := 6) (j := 3) hY dX2_tellLeft_20 rfl rfl rfl (by decide) hin6 (by decide) rfl (List.mem_of_getElem? (i := 4) rfl) (fun v7 => ?_)
  refine xv_iconst hY dX2_tellLeft_23 rfl ?_
  refine xv_iload_n rfl rfl hY dX2_tellLeft_24 rfl ?_
  refine xv_iload_n rfl rfl hY dX2_tellLeft_25 rfl ?_
  refine xv_aload_n rfl rfl hY dX2_tellLeft_26 rfl ?_
  refine xv_getP (ci := 2) (j := 0) hY dX2_tellLeft_27 rfl rfl rfl (by decide) hin2 (by decide) rfl (List.mem_of_getElem? (i := 1) rfl) (fun v8 => ?_)
  refine xv_getI (ci := 6) (j := 0) hY dX2_tellLeft_30 rfl rfl rfl (by decide) hin6 (by decide) rfl (List.mem_of_getElem? (i := 5) rfl) (fun v9 => ?_)
  refine xv_callVV (ci := 3) (y := yX3_write) (ws := wsX3_write) (rm := rm_X3_write) (mc := 0) (ms := 0) (n := 4) (av := [xi (1 : Int), xi a1, xi a2, xi v9]) hY dX2_tellLeft_33 rfl rfl rfl (by decide) (fun q hq => by rw [hfl]; exact S_X3_write Y.1.2.1 v7 (1 : Int) a1 a2 v9 M5 q hq) (cwV 4 hY.2.2.2.2.1 gX2_tellLeft_X3_write rfl rfl rfl (by decide +kernel) ⟨(by rw [hR]; exact Nat.le_of_ble_eq_true rfl), (by rw [hR]; exact Nat.le_of_ble_eq_true rfl)⟩) rfl (Nat.le_of_ble_eq_true rfl) ⟨(by rw [hR]; exact Nat.le_of_ble_eq_true rfl), (by rw [hR]; exact Nat.le_of_ble_eq_true rfl)⟩ (fun _ M10 => ?_)
  exact xv_vretu hY hfl dX2_tellLeft_36 hret (Nat.le_of_ble_eq_true rfl) (Nat.le_of_ble_eq_true rfl)
set_option maxHeartbeats 4000000 in
set_option maxRecDepth 100000 in
theorem S_X2_tellEntered (l : Launch) (a0 : Nat) (a1 : Int) (a2 : Int) (M : xv_M) (q : Unit × xv_M) (h : D_X2_tellEntered a0 a1 a2 M = some q) : xv_Met l yX2_tellEntered wsX2_tellEntered rm_X2_tellEntered 0 0 false [xr a0, xi a1, xi a2] M (xv_qV false q) := by
  refine xv_enter (cc := cX2_tellEntered) (nL := 3) (ret := none) rfl (by decide +kernel) (Nat.le_of_ble_eq_true rfl) h ?_
  intro Y hY0 hl hR hnL hfl hret hnm0
  have hY : xv_ok Y cX2_tellEntered wsX2_tellEntered RX2 := hY0
  have hin2 : ∀ w ∈ u_ws RX2 TX2 3, w ∈ wsX2_tellEntered := fun _ h => List.mem_cons_of_mem _ (List.mem_append_left _ (List.mem_append_left _ (List.mem_append_left _ (List.mem_append_left _ (List.mem_append_right _ h)))))
  have hin5 : ∀ w ∈ u_ws RX5 TX5 8, w ∈ wsX2_tellEntered := fun _ h => List.mem_cons_of_mem _ (List.mem_append_left _ (List.mem_append_right _ h))
  have hin6 : ∀ w ∈ u_ws RX6 TX6 4, w ∈ wsX2_tellEntered := fun _ h => List.mem_cons_of_mem _ (List.mem_append_left _ (List.mem_append_left _ (List.mem_append_left _ (List.mem_append_right _ h))))
  have hin9 : ∀ w ∈ u_ws RX9 TX9 9, w ∈ wsX2_tellEntered := fun _ h => List.mem_cons_of_mem _ (List.mem_append_left _ (List.mem_append_left _ (List.mem_append_right _ h)))
  unfold D_X2_tellEntered
  refine xv_mk (L' := [some (xr a0), some (xi a1), some (xi a2)]) [true, true, true] rfl ?_
  refine xv_aload_n rfl rfl hY dX2_tellEntered_0 rfl ?_
  refine xv_getP (ci := 2) (j := 0) hY dX2_tellEntered_1 rfl rfl rfl (by decide) hin2 (by decide) rfl (List.mem_of_getElem? (i := 1) rfl) (fun v1 => ?_)
  refine xv_getP (ci := 6) (j := 2) hY dX2_tellEntered_4 rfl rfl rfl (by decide) hin6 (by decide) rfl (List.mem_of_getElem? (i := 2) rfl) (fun v2 => ?_)
  refine xv_getP (ci := 9) (j := 4) hY dX2_tellEntered_7 rfl rfl rfl (by decide) hin9 (by decide) rfl (List.mem_of_getElem? (i := 3) rfl) (fun v3 => ?_)
  refine xv_iload_n rfl rfl hY dX2_tellEntered_10 rfl ?_
  refine xv_dup2 hY dX2_tellEntered_11 rfl ?_
  refine xv_iald hY dX2_tellEntered_12 rfl (fun v4 => ?_)
  refine xv_iconst hY dX2_tellEntered_13 rfl ?_
  refine xv_iadd hY dX2_tellEntered_14 rfl ?_
  refine xv_iast hY hfl dX2_tellEntered_15 rfl (fun M5 => ?_)
  refine xv_aload_n rfl rfl hY dX2_tellEntered_16 rfl ?_
  refine xv_getP (ci := 2) (j := 0) hY dX2_tellEntered_17 rfl rfl rfl (by decide) hin2 (by decide) rfl (List.mem_of_getElem? (i := 1) rfl) (fun v6 => ?_)
  refine xv_getP (ci := 6) (j := 2) hY dX2_tellEntered_20 rfl rfl rfl (by decide) hin6 (by decide) rfl (List.mem_of_getElem? (i := 2) rfl) (fun v7 => ?_)
  refine xv_getP (ci := 9) (j := 8) hY dX2_tellEntered_23 rfl rfl rfl (by decide) hin9 (by decide) rfl (List.mem_of_getElem? (i := 4) rfl) (fun v8 => ?_)
  refine xv_iload_n rfl rfl hY dX2_tellEntered_26 rfl ?_
  refine xv_aaldI hY dX2_tellEntered_27 rfl (fun v9 => ?_)
  refine xv_iload_n rfl rfl hY dX2_tellEntered_28 rfl ?_
  refine xv_aload_n rfl rfl hY dX2_tellEntered_29 rfl ?_
  refine xv_getP (ci := 2) (j := 0) hY dX2_tellEntered_30 rfl rfl rfl (by decide) hin2 (by decide) rfl (List.mem_of_getElem? (i := 1) rfl) (fun v10 => ?_)
  refine xv_getI (ci := 6) (j := 0) hY dX2_tellEntered_33 rfl rfl rfl (by decide) hin6 (by decide) rfl (List.mem_of_getElem? (i := 5) rfl) (fun v11 => ?_)
  refine xv_iast hY hfl dX2_tellEntered_36 rfl (fun M12 => ?_)
  refine xv_aload_n rfl rfl hY dX2_tellEntered_37 rfl ?_
  refine xv_getP (ci := 2) (j := 0) hY dX2_tellEntered_38 rfl rfl rfl (by decide) hin2 (by decide) rfl (List.mem_of_getElem? (i := 1) rfl) (fun v13 => ?_)
  refine xv_getP (ci := 6) (j := 1) hY dX2_tellEntered_41 rfl rfl rfl (by decide) hin6 (by decide) rfl (List.mem_of_getElem? (i := 6) rfl) (fun v14 => ?_)
  refine xv_getP (ci := 5) (j := 7) hY dX2_tellEntered_44 rfl rfl rfl (by decide) hin5 (by decide) rfl (List.mem_of_getElem? (i := 7) rfl) (fun v15 => ?_)
  refine xv_iload_n rfl rfl hY dX2_tellEntered_47 rfl ?_
  refine xv_dup2 hY dX2_tellEntered_48 rfl ?_
  refine xv_iald hY dX2_tellEntered_49 rfl (fun v16 => ?_)
  refine xv_iconst hY dX2_tellEntered_50 rfl ?_
  refine xv_iadd hY dX2_tellEntered_51 rfl ?_
  refine xv_iast hY hfl dX2_tellEntered_52 rfl (fun M17 => ?_)
  refine xv_aload_n rfl rfl hY dX2_tellEntered_53 rfl ?_
  refine xv_getP (ci := 2) (j := 0) hY dX2_tellEntered_54 rfl rfl rfl (by decide) hin2 (by decide) rfl (List.mem_of_getElem? (i := 1) rfl) (fun v18 => ?_)
  refine xv_getP (ci := 6) (j := 3) hY dX2_tellEntered_57 rfl rfl rfl (by decide) hin6 (by decide) rfl (List.mem_of_getElem? (i := 8) rfl) (fun v19 => ?_)
  refine xv_iconst hY dX2_tellEntered_60 rfl ?_
  refine xv_iload_n rfl rfl hY dX2_tellEntered_61 rfl ?_
  refine xv_iload_n rfl rfl hY dX2_tellEntered_62 rfl ?_
  refine xv_aload_n rfl rfl hY dX2_tellEntered_63 rfl ?_
  refine xv_getP (ci := 2) (j := 0) hY dX2_tellEntered_64 rfl rfl rfl (by decide) hin2 (by decide) rfl (List.mem_of_getElem? (i := 1) rfl) (fun v20 => ?_)
  refine xv_getI (ci := 6) (j := 0) hY dX2_tellEntered_67 rfl rfl rfl (by decide) hin6 (by decide) rfl (List.mem_of_getElem? (i := 5) rfl) (fun v21 => ?_)
  refine xv_callVV (ci := 3) (y := yX3_write) (ws := wsX3_write) (rm := rm_X3_write) (mc := 0) (ms := 0) (n := 4) (av := [xi (0 : Int), xi a1, xi a2, xi v21]) hY dX2_tellEntered_70 rfl rfl rfl (by decide) (fun q hq => by rw [hfl]; exact S_X3_write Y.1.2.1 v19 (0 : Int) a1 a2 v21 M17 q hq) (cwV 4 hY.2.2.2.2.1 gX2_tellEntered_X3_write rfl rfl rfl (by decide +kernel) ⟨(by rw [hR]; exact Nat.le_of_ble_eq_true rfl), (by rw [hR]; exact Nat.le_of_ble_eq_true rfl)⟩) rfl (Nat.le_of_ble_eq_true rfl) ⟨(by rw [hR]; exact Nat.le_of_ble_eq_true rfl), (by rw [hR]; exact Nat.le_of_ble_eq_true rfl)⟩ (fun _ M22 => ?_)
  exact xv_vretu hY hfl dX2_tellEntered_73 hret (Nat.le_of_ble_eq_true rfl) (Nat.le_of_ble_eq_true rfl)
set_option maxHeartbeats 4000000 in
set_option maxRecDepth 100000 in
theorem S_X2_tell (l : Launch) (a0 : Nat) (a1 : Int) (M : xv_M) (q : Int × xv_M) (h : D_X2_tell a0 a1 M = some q) : xv_Met l yX2_tell wsX2_tell rm_X2_tell 0 0 false [xr a0, xi a1] M (xv_qI false q) := by
  refine xv_enter (cc := cX2_tell) (nL := 7) (ret := (some .int)) rfl (by decide +kernel) (Nat.le_of_ble_eq_true rfl) h ?_
  intro Y hY0 hl hR hnL hfl hret hnm0
  have hY : xv_ok Y cX2_tell wsX2_tell RX2 := hY0
  have hin2 : ∀ w ∈ u_ws RX2 TX2 3, w ∈ wsX2_tell := fun _ h => List.mem_cons_of_mem _ (List.mem_append_left _ (List.mem_append_left _ (List.mem_append_left _ (List.mem_append_left _ (List.mem_append_left _ (List.mem_append_right _ h))))))
  have hin5 : ∀ w ∈ u_ws RX5 TX5 8, w ∈ wsX2_tell := fun _ h => List.mem_cons_of_mem _ (List.mem_append_left _ (List.mem_append_left _ (List.mem_append_right _ h)))
  have hin6 : ∀ w ∈ u_ws RX6 TX6 4, w ∈ wsX2_tell := fun _ h => List.mem_cons_of_mem _ (List.mem_append_left _ (List.mem_append_left _ (List.mem_append_left _ (List.mem_append_left _ (List.mem_append_right _ h)))))
  have hin9 : ∀ w ∈ u_ws RX9 TX9 9, w ∈ wsX2_tell := fun _ h => List.mem_cons_of_mem _ (List.mem_append_left _ (List.mem_append_left _ (List.mem_append_left _ (List.mem_append_right _ h))))
  unfold D_X2_tell
  refine xv_mk (L' := [some (xr a0), some (xi a1), none, none, none, none, none]) [true, true, true, true, true, true, true] rfl ?_
  refine xv_aload_n rfl rfl hY dX2_tell_0 rfl ?_
  refine xv_getP (ci := 2) (j := 0) hY dX2_tell_1 rfl rfl rfl (by decide) hin2 (by decide) rfl (List.mem_of_getElem? (i := 1) rfl) (fun v1 => ?_)
  refine xv_getP (ci := 6) (j := 2) hY dX2_tell_4 rfl rfl rfl (by decide) hin6 (by decide) rfl (List.mem_of_getElem? (i := 2) rfl) (fun v2 => ?_)
  refine xv_getP (ci := 9) (j := 3) hY dX2_tell_7 rfl rfl rfl (by decide) hin9 (by decide) rfl (List.mem_of_getElem? (i := 3) rfl) (fun v3 => ?_)
  refine xv_iload_n rfl rfl hY dX2_tell_10 rfl ?_
  refine xv_lald hY dX2_tell_11 rfl (fun v4 => ?_)
  refine xv_lstore_n (L' := [some (xr a0), some (xi a1), some (xl v4), none, none, none, none]) hY dX2_tell_12 rfl rfl (by rw [hnL]; decide) rfl rfl ?_
  refine xv_aload_n rfl rfl hY dX2_tell_13 rfl ?_
  refine xv_getP (ci := 2) (j := 1) hY dX2_tell_14 rfl rfl rfl (by decide) hin2 (by decide) rfl (List.mem_of_getElem? (i := 4) rfl) (fun v5 => ?_)
  refine xv_aload_n rfl rfl hY dX2_tell_17 rfl ?_
  refine xv_getP (ci := 2) (j := 0) hY dX2_tell_18 rfl rfl rfl (by decide) hin2 (by decide) rfl (List.mem_of_getElem? (i := 1) rfl) (fun v6 => ?_)
  refine xv_getP (ci := 6) (j := 2) hY dX2_tell_21 rfl rfl rfl (by decide) hin6 (by decide) rfl (List.mem_of_getElem? (i := 2) rfl) (fun v7 => ?_)
  refine xv_getP (ci := 9) (j := 1) hY dX2_tell_24 rfl rfl rfl (by decide) hin9 (by decide) rfl (List.mem_of_getElem? (i := 5) rfl) (fun v8 => ?_)
  refine xv_iload_n rfl rfl hY dX2_tell_27 rfl ?_
  refine xv_iald hY dX2_tell_28 rfl (fun v9 => ?_)
  refine xv_callVJ (ci := 0) (y := yX0_over) (ws := wsX0_over) (rm := rm_X0_over) (mc := 0) (ms := 0) (n := 1) (av := [xi v9]) hY dX2_tell_29 rfl rfl rfl (by decide) (fun q hq => by rw [hfl]; exact S_X0_over Y.1.2.1 v5 v9 M q hq) (cwV 1 hY.2.2.2.2.1 gX2_tell_X0_over rfl rfl rfl (by decide +kernel) ⟨(by rw [hR]; exact Nat.le_of_ble_eq_true rfl), (by rw [hR]; exact Nat.le_of_ble_eq_true rfl)⟩) rfl (Nat.le_of_ble_eq_true rfl) ⟨(by rw [hR]; exact Nat.le_of_ble_eq_true rfl), (by rw [hR]; exact Nat.le_of_ble_eq_true rfl)⟩ (fun z11 M10 => ?_)
  refine xv_lstore (L' := [some (xr a0), some (xi a1), some (xl v4), none, some (xl z11), none, none]) hY dX2_tell_32 rfl (by rw [hnL]; decide) rfl rfl ?_
  refine xv_lload_n rfl rfl hY dX2_tell_34 rfl ?_
  refine xv_lload rfl hY dX2_tell_35 rfl ?_
  refine xv_lcmp hY dX2_tell_37 rfl ?_
  refine xv_if_ne (t := 43) hY dX2_tell_38 (by decide) rfl ?_ ?_
  · refine xv_iconst hY dX2_tell_43 rfl ?_
    refine xv_istore (L' := [some (xr a0), some (xi a1), some (xl v4), none, some (xl z11), none, some (xi (0 : Int))]) hY dX2_tell_44 rfl (by rw [hnL]; decide) rfl rfl ?_
    refine xv_mk (L' := [some (xr a0), some (xi a1), some (xl v4), none, some (xl z11), none, some (xi (0 : Int))]) [true, true, true, false, true, false, true] rfl ?_
    refine xv_loop (σ := Int × xv_M) (fun x12 => [some (xr a0), some (xi a1), some (xl v4), none, some (xl z11), none, some (xi x12.1)]) (fun x12 => x12.2) (fun f13 hf13 x12 => ?_) xv_fuel ((0 : Int), M10)
    refine xv_iload rfl hY dX2_tell_46 rfl ?_
    refine xv_aload_n rfl rfl hY dX2_tell_48 rfl ?_
    refine xv_getP (ci := 2) (j := 0) hY dX2_tell_49 rfl rfl rfl (by decide) hin2 (by decide) rfl (List.mem_of_getElem? (i := 1) rfl) (fun v14 => ?_)
    refine xv_getP (ci := 6) (j := 1) hY dX2_tell_52 rfl rfl rfl (by decide) hin6 (by decide) rfl (List.mem_of_getElem? (i := 6) rfl) (fun v15 => ?_)
    refine xv_getI (ci := 5) (j := 0) hY dX2_tell_55 rfl rfl rfl (by decide) hin5 (by decide) rfl (List.mem_of_getElem? (i := 7) rfl) (fun v16 => ?_)
    refine xv_icmp_ge (t := 90) hY dX2_tell_58 (by decide) rfl ?_ ?_
    · refine xv_iconst hY dX2_tell_90 rfl ?_
      refine xv_istore (L' := [some (xr a0), some (xi a1), some (xl v4), none, some (xl z11), none, some (xi (0 : Int))]) hY dX2_tell_91 rfl (by rw [hnL]; decide) rfl rfl ?_
      refine xv_mk (L' := [some (xr a0), some (xi a1), some (xl v4), none, some (xl z11), none, some (xi (0 : Int))]) [true, true, true, false, true, false, true] rfl ?_
      refine xv_loop (σ := Int × xv_M) (fun x17 => [some (xr a0), some (xi a1), some (xl v4), none, some (xl z11), none, some (xi x17.1)]) (fun x17 => x17.2) (fun f18 hf18 x17 => ?_) xv_fuel ((0 : Int), x12.2)
      refine xv_iload rfl hY dX2_tell_93 rfl ?_
      refine xv_aload_n rfl rfl hY dX2_tell_95 rfl ?_
      refine xv_getP (ci := 2) (j := 0) hY dX2_tell_96 rfl rfl rfl (by decide) hin2 (by decide) rfl (List.mem_of_getElem? (i := 1) rfl) (fun v19 => ?_)
      refine xv_getP (ci := 6) (j := 1) hY dX2_tell_99 rfl rfl rfl (by decide) hin6 (by decide) rfl (List.mem_of_getElem? (i := 6) rfl) (fun v20 => ?_)
      refine xv_getI (ci := 5) (j := 0) hY dX2_tell_102 rfl rfl rfl (by decide) hin5 (by decide) rfl (List.mem_of_getElem? (i := 7) rfl) (fun v21 => ?_)
      refine xv_icmp_ge (t := 137) hY dX2_tell_105 (by decide) rfl ?_ ?_
      · refine xv_aload_n rfl rfl hY dX2_tell_137 rfl ?_
        refine xv_getP (ci := 2) (j := 0) hY dX2_tell_138 rfl rfl rfl (by decide) hin2 (by decide) rfl (List.mem_of_getElem? (i := 1) rfl) (fun v22 => ?_)
        refine xv_getP (ci := 6) (j := 2) hY dX2_tell_141 rfl rfl rfl (by decide) hin6 (by decide) rfl (List.mem_of_getElem? (i := 2) rfl) (fun v23 => ?_)
        refine xv_getP (ci := 9) (j := 3) hY dX2_tell_144 rfl rfl rfl (by decide) hin9 (by decide) rfl (List.mem_of_getElem? (i := 3) rfl) (fun v24 => ?_)
        refine xv_iload_n rfl rfl hY dX2_tell_147 rfl ?_
        refine xv_lload rfl hY dX2_tell_148 rfl ?_
        refine xv_last hY hfl dX2_tell_150 rfl (fun M25 => ?_)
        refine xv_lload_n rfl rfl hY dX2_tell_151 rfl ?_
        refine xv_lload rfl hY dX2_tell_152 rfl ?_
        refine xv_lxor hY dX2_tell_154 rfl ?_
        refine xv_callSI (y := yJ13_bitCount_95d88) (ws := wsJ13_bitCount_95d88) (rm := rm_J13_bitCount_95d88) (mc := 0) (ms := 0) (n := 1) (av := [xl (v4 ^^^ z11)]) hY dX2_tell_155 rfl rfl (fun q hq => by rw [hfl]; exact S_J13_bitCount_95d88 Y.1.2.1 (v4 ^^^ z11) M25 q hq) (va_cwS 1 hY.2.2.2.2.1 gX2_tell_J13_bitCount_95d88 rfl rfl rfl (by decide +kernel) ⟨(by rw [hR]; exact Nat.le_of_ble_eq_true rfl), (by rw [hR]; exact Nat.le_of_ble_eq_true rfl)⟩) rfl (Nat.le_of_ble_eq_true rfl) ⟨(by rw [hR]; exact Nat.le_of_ble_eq_true rfl), (by rw [hR]; exact Nat.le_of_ble_eq_true rfl)⟩ (fun z27 M26 => ?_)
        exact xv_ireti hY hfl dX2_tell_158 hret (Nat.le_of_ble_eq_true rfl) (Nat.le_of_ble_eq_true rfl)
      · refine xv_lload rfl hY dX2_tell_108 rfl ?_
        refine xv_lload_n rfl rfl hY dX2_tell_110 rfl ?_
        refine xv_ldc2 (v := (-1 : Int64)) hY dX2_tell_111 rfl (by decide +kernel) ?_
        refine xv_lxor hY dX2_tell_114 rfl ?_
        refine xv_land hY dX2_tell_115 rfl ?_
        refine xv_iload rfl hY dX2_tell_116 rfl ?_
        refine xv_callSNI (y := yX11_isMember) (ws := wsX11_isMember) (rm := rm_X11_isMember) (mc := 0) (ms := 0) (n := 2) (av := [xl (z11 &&& (v4 ^^^ (-1 : Int64))), xi x17.1]) hY dX2_tell_118 rfl rfl (fun q hq => by rw [hfl]; exact S_X11_isMember Y.1.2.1 (z11 &&& (v4 ^^^ (-1 : Int64))) x17.1 x17.2 q hq) ⟨va_cnB 2 hY.2.2.2.2.1 gX2_tell_X11_isMember_n112 rfl rfl rfl (hY.2.2.2.2.2.1.2.1 _ (List.mem_of_getElem? (i := 14) rfl)) (hY.2.2.2.2.1 _ (by decide +kernel)) (by decide +kernel) ⟨(by rw [hR]; exact Nat.le_of_ble_eq_true rfl), (by rw [hR]; exact Nat.le_of_ble_eq_true rfl)⟩, hY.2.2.2.2.1 _ (by decide +kernel), trivial⟩ rfl (Nat.le_of_ble_eq_true rfl) ⟨(by rw [hR]; exact Nat.le_of_ble_eq_true rfl), (by rw [hR]; exact Nat.le_of_ble_eq_true rfl)⟩ (fun z29 M28 => ?_)
        refine xv_join (α := xv_M) 131 (fun x30 => [some (xr a0), some (xi a1), some (xl v4), none, some (xl z11), none, some (xi x17.1)]) (fun x30 => []) (fun x30 => x30) (fun x30 => ?_) (fun j31 hj31 => ?_)
        · refine xv_iinc (L' := [some (xr a0), some (xi a1), some (xl v4), none, some (xl z11), none, some (xi (x17.1 + 1))]) hY dX2_tell_131 rfl (by rw [hnL]; decide) rfl rfl rfl ?_
          refine xv_goto (pc' := 93) hY dX2_tell_134 (by decide) ?_
          exact xv_mk (L' := [some (xr a0), some (xi a1), some (xl v4), none, some (xl z11), none, some (xi (x17.1 + 1))]) [true, true, true, false, true, false, true] rfl (hf18 ((x17.1 + 1), x30))
        · refine xv_if_eq (t := 131) hY dX2_tell_121 (by decide) rfl ?_ ?_
          · exact xv_mk (L' := [some (xr a0), some (xi a1), some (xl v4), none, some (xl z11), none, some (xi x17.1)]) [true, true, true, false, true, false, true] rfl (hj31 M28)
          · refine xv_aload_n rfl rfl hY dX2_tell_124 rfl ?_
            refine xv_iload_n rfl rfl hY dX2_tell_125 rfl ?_
            refine xv_iload rfl hY dX2_tell_126 rfl ?_
            refine xv_callVV (ci := 2) (y := yX2_tellEntered) (ws := wsX2_tellEntered) (rm := rm_X2_tellEntered) (mc := 0) (ms := 0) (n := 2) (av := [xi a1, xi x17.1]) hY dX2_tell_128 rfl rfl rfl (by decide) (fun q hq => by rw [hfl]; exact S_X2_tellEntered Y.1.2.1 a0 a1 x17.1 M28 q hq) (cwV 2 hY.2.2.2.2.1 gX2_tell_X2_tellEntered rfl rfl rfl (by decide +kernel) ⟨(by rw [hR]; exact Nat.le_of_ble_eq_true rfl), (by rw [hR]; exact Nat.le_of_ble_eq_true rfl)⟩) rfl (Nat.le_of_ble_eq_true rfl) ⟨(by rw [hR]; exact Nat.le_of_ble_eq_true rfl), (by rw [hR]; exact Nat.le_of_ble_eq_true rfl)⟩ (fun _ M32 => ?_)
            exact xv_mk (L' := [some (xr a0), some (xi a1), some (xl v4), none, some (xl z11), none, some (xi x17.1)]) [true, true, true, false, true, false, true] rfl (hj31 M32)
    · refine xv_lload_n rfl rfl hY dX2_tell_61 rfl ?_
      refine xv_lload rfl hY dX2_tell_62 rfl ?_
      refine xv_ldc2 (v := (-1 : Int64)) hY dX2_tell_64 rfl (by decide +kernel) ?_
      refine xv_lxor hY dX2_tell_67 rfl ?_
      refine xv_land hY dX2_tell_68 rfl ?_
      refine xv_iload rfl hY dX2_tell_69 rfl ?_
      refine xv_callSNI (y := yX11_isMember) (ws := wsX11_isMember) (rm := rm_X11_isMember) (mc := 0) (ms := 0) (n := 2) (av := [xl (v4 &&& (z11 ^^^ (-1 : Int64))), xi x12.1]) hY dX2_tell_71 rfl rfl (fun q hq => by rw [hfl]; exact S_X11_isMember Y.1.2.1 (v4 &&& (z11 ^^^ (-1 : Int64))) x12.1 x12.2 q hq) ⟨va_cnB 2 hY.2.2.2.2.1 gX2_tell_X11_isMember_n112 rfl rfl rfl (hY.2.2.2.2.2.1.2.1 _ (List.mem_of_getElem? (i := 14) rfl)) (hY.2.2.2.2.1 _ (by decide +kernel)) (by decide +kernel) ⟨(by rw [hR]; exact Nat.le_of_ble_eq_true rfl), (by rw [hR]; exact Nat.le_of_ble_eq_true rfl)⟩, hY.2.2.2.2.1 _ (by decide +kernel), trivial⟩ rfl (Nat.le_of_ble_eq_true rfl) ⟨(by rw [hR]; exact Nat.le_of_ble_eq_true rfl), (by rw [hR]; exact Nat.le_of_ble_eq_true rfl)⟩ (fun z34 M33 => ?_)
      refine xv_join (α := xv_M) 84 (fun x35 => [some (xr a0), some (xi a1), some (xl v4), none, some (xl z11), none, some (xi x12.1)]) (fun x35 => []) (fun x35 => x35) (fun x35 => ?_) (fun j36 hj36 => ?_)
      · refine xv_iinc (L' := [some (xr a0), some (xi a1), some (xl v4), none, some (xl z11), none, some (xi (x12.1 + 1))]) hY dX2_tell_84 rfl (by rw [hnL]; decide) rfl rfl rfl ?_
        refine xv_goto (pc' := 46) hY dX2_tell_87 (by decide) ?_
        exact xv_mk (L' := [some (xr a0), some (xi a1), some (xl v4), none, some (xl z11), none, some (xi (x12.1 + 1))]) [true, true, true, false, true, false, true] rfl (hf13 ((x12.1 + 1), x35))
      · refine xv_if_eq (t := 84) hY dX2_tell_74 (by decide) rfl ?_ ?_
        · exact xv_mk (L' := [some (xr a0), some (xi a1), some (xl v4), none, some (xl z11), none, some (xi x12.1)]) [true, true, true, false, true, false, true] rfl (hj36 M33)
        · refine xv_aload_n rfl rfl hY dX2_tell_77 rfl ?_
          refine xv_iload_n rfl rfl hY dX2_tell_78 rfl ?_
          refine xv_iload rfl hY dX2_tell_79 rfl ?_
          refine xv_callVV (ci := 2) (y := yX2_tellLeft) (ws := wsX2_tellLeft) (rm := rm_X2_tellLeft) (mc := 0) (ms := 0) (n := 2) (av := [xi a1, xi x12.1]) hY dX2_tell_81 rfl rfl rfl (by decide) (fun q hq => by rw [hfl]; exact S_X2_tellLeft Y.1.2.1 a0 a1 x12.1 M33 q hq) (cwV 2 hY.2.2.2.2.1 gX2_tell_X2_tellLeft rfl rfl rfl (by decide +kernel) ⟨(by rw [hR]; exact Nat.le_of_ble_eq_true rfl), (by rw [hR]; exact Nat.le_of_ble_eq_true rfl)⟩) rfl (Nat.le_of_ble_eq_true rfl) ⟨(by rw [hR]; exact Nat.le_of_ble_eq_true rfl), (by rw [hR]; exact Nat.le_of_ble_eq_true rfl)⟩ (fun _ M37 => ?_)
          exact xv_mk (L' := [some (xr a0), some (xi a1), some (xl v4), none, some (xl z11), none, some (xi x12.1)]) [true, true, true, false, true, false, true] rfl (hj36 M37)
  · refine xv_iconst hY dX2_tell_41 rfl ?_
    exact xv_ireti hY hfl dX2_tell_42 hret (Nat.le_of_ble_eq_true rfl) (Nat.le_of_ble_eq_true rfl)
set_option maxHeartbeats 4000000 in
set_option maxRecDepth 100000 in
theorem S_X2_tellAll (l : Launch) (a0 : Nat) (M : xv_M) (q : Int × xv_M) (h : D_X2_tellAll a0 M = some q) : xv_Met l yX2_tellAll wsX2_tellAll rm_X2_tellAll 0 0 false [xr a0] M (xv_qI false q) := by
  refine xv_enter (cc := cX2_tellAll) (nL := 3) (ret := (some .int)) rfl (by decide +kernel) (Nat.le_of_ble_eq_true rfl) h ?_
  intro Y hY0 hl hR hnL hfl hret hnm0
  have hY : xv_ok Y cX2_tellAll wsX2_tellAll RX2 := hY0
  have hin2 : ∀ w ∈ u_ws RX2 TX2 3, w ∈ wsX2_tellAll := fun _ h => List.mem_cons_of_mem _ (List.mem_append_left _ (List.mem_append_left _ (List.mem_append_left _ (List.mem_append_left _ (List.mem_append_left _ (List.mem_append_right _ h))))))
  have hin6 : ∀ w ∈ u_ws RX6 TX6 4, w ∈ wsX2_tellAll := fun _ h => List.mem_cons_of_mem _ (List.mem_append_left _ (List.mem_append_left _ (List.mem_append_left _ (List.mem_append_left _ (List.mem_append_right _ h)))))
  have hin9 : ∀ w ∈ u_ws RX9 TX9 9, w ∈ wsX2_tellAll := fun _ h => List.mem_cons_of_mem _ (List.mem_append_left _ (List.mem_append_left _ (List.mem_append_left _ (List.mem_append_right _ h))))
  unfold D_X2_tellAll
  refine xv_mk (L' := [some (xr a0), none, none]) [true, true, true] rfl ?_
  refine xv_iconst hY dX2_tellAll_0 rfl ?_
  refine xv_istore_n (L' := [some (xr a0), some (xi (0 : Int)), none]) hY dX2_tellAll_1 rfl rfl (by rw [hnL]; decide) rfl rfl ?_
  refine xv_iconst hY dX2_tellAll_2 rfl ?_
  refine xv_istore_n (L' := [some (xr a0), some (xi (0 : Int)), some (xi (0 : Int))]) hY dX2_tellAll_3 rfl rfl (by rw [hnL]; decide) rfl rfl ?_
  refine xv_mk (L' := [some (xr a0), some (xi (0 : Int)), some (xi (0 : Int))]) [true, true, true] rfl ?_
  refine xv_loop (σ := Int × Int × xv_M) (fun x1 => [some (xr a0), some (xi x1.1), some (xi x1.2.1)]) (fun x1 => x1.2.2) (fun f2 hf2 x1 => ?_) xv_fuel ((0 : Int), (0 : Int), M)
  refine xv_iload_n rfl rfl hY dX2_tellAll_4 rfl ?_
  refine xv_aload_n rfl rfl hY dX2_tellAll_5 rfl ?_
  refine xv_getP (ci := 2) (j := 0) hY dX2_tellAll_6 rfl rfl rfl (by decide) hin2 (by decide) rfl (List.mem_of_getElem? (i := 1) rfl) (fun v3 => ?_)
  refine xv_getP (ci := 6) (j := 2) hY dX2_tellAll_9 rfl rfl rfl (by decide) hin6 (by decide) rfl (List.mem_of_getElem? (i := 2) rfl) (fun v4 => ?_)
  refine xv_getI (ci := 9) (j := 0) hY dX2_tellAll_12 rfl rfl rfl (by decide) hin9 (by decide) rfl (List.mem_of_getElem? (i := 3) rfl) (fun v5 => ?_)
  refine xv_icmp_ge (t := 32) hY dX2_tellAll_15 (by decide) rfl ?_ ?_
  · refine xv_iload_n rfl rfl hY dX2_tellAll_32 rfl ?_
    exact xv_ireti hY hfl dX2_tellAll_33 hret (Nat.le_of_ble_eq_true rfl) (Nat.le_of_ble_eq_true rfl)
  · refine xv_iload_n rfl rfl hY dX2_tellAll_18 rfl ?_
    refine xv_aload_n rfl rfl hY dX2_tellAll_19 rfl ?_
    refine xv_iload_n rfl rfl hY dX2_tellAll_20 rfl ?_
    refine xv_callVI (ci := 2) (y := yX2_tell) (ws := wsX2_tell) (rm := rm_X2_tell) (mc := 0) (ms := 0) (n := 1) (av := [xi x1.2.1]) hY dX2_tellAll_21 rfl rfl rfl (by decide) (fun q hq => by rw [hfl]; exact S_X2_tell Y.1.2.1 a0 x1.2.1 x1.2.2 q hq) (cwV 1 hY.2.2.2.2.1 gX2_tellAll_X2_tell rfl rfl rfl (by decide +kernel) ⟨(by rw [hR]; exact Nat.le_of_ble_eq_true rfl), (by rw [hR]; exact Nat.le_of_ble_eq_true rfl)⟩) rfl (Nat.le_of_ble_eq_true rfl) ⟨(by rw [hR]; exact Nat.le_of_ble_eq_true rfl), (by rw [hR]; exact Nat.le_of_ble_eq_true rfl)⟩ (fun z7 M6 => ?_)
    refine xv_iadd hY dX2_tellAll_24 rfl ?_
    refine xv_istore_n (L' := [some (xr a0), some (xi (x1.1 + z7)), some (xi x1.2.1)]) hY dX2_tellAll_25 rfl rfl (by rw [hnL]; decide) rfl rfl ?_
    refine xv_iinc (L' := [some (xr a0), some (xi (x1.1 + z7)), some (xi (x1.2.1 + 1))]) hY dX2_tellAll_26 rfl (by rw [hnL]; decide) rfl rfl rfl ?_
    refine xv_goto (pc' := 4) hY dX2_tellAll_29 (by decide) ?_
    exact xv_mk (L' := [some (xr a0), some (xi (x1.1 + z7)), some (xi (x1.2.1 + 1))]) [true, true, true] rfl (hf2 ((x1.1 + z7), (x1.2.1 + 1), M6))
set_option maxHeartbeats 4000000 in
set_option maxRecDepth 100000 in
theorem S_X2_addSpan (l : Launch) (a0 : Nat) (a1 : Int) (a2 : Int) (a3 : Int) (a4 : Int) (M : xv_M) (q : Int × xv_M) (h : D_X2_addSpan a0 a1 a2 a3 a4 M = some q) : xv_Met l yX2_addSpan wsX2_addSpan rm_X2_addSpan 0 0 false [xr a0, xi a1, xi a2, xi a3, xi a4] M (xv_qI false q) := by
  refine xv_enter (cc := cX2_addSpan) (nL := 6) (ret := (some .int)) rfl (by decide +kernel) (Nat.le_of_ble_eq_true rfl) h ?_
  intro Y hY0 hl hR hnL hfl hret hnm0
  have hY : xv_ok Y cX2_addSpan wsX2_addSpan RX2 := hY0
  have hin2 : ∀ w ∈ u_ws RX2 TX2 3, w ∈ wsX2_addSpan := fun _ h => List.mem_cons_of_mem _ (List.mem_append_left _ (List.mem_append_left _ (List.mem_append_left _ (List.mem_append_left _ (List.mem_append_left _ (List.mem_append_left _ (List.mem_append_left _ (List.mem_append_right _ h))))))))
  have hin6 : ∀ w ∈ u_ws RX6 TX6 4, w ∈ wsX2_addSpan := fun _ h => List.mem_cons_of_mem _ (List.mem_append_left _ (List.mem_append_left _ (List.mem_append_left _ (List.mem_append_left _ (List.mem_append_left _ (List.mem_append_left _ (List.mem_append_right _ h)))))))
  unfold D_X2_addSpan
  refine xv_mk (L' := [some (xr a0), some (xi a1), some (xi a2), some (xi a3), some (xi a4), none]) [true, true, true, true, true, true] rfl ?_
  refine xv_aload_n rfl rfl hY dX2_addSpan_0 rfl ?_
  refine xv_getP (ci := 2) (j := 0) hY dX2_addSpan_1 rfl rfl rfl (by decide) hin2 (by decide) rfl (List.mem_of_getElem? (i := 1) rfl) (fun v1 => ?_)
  refine xv_getP (ci := 6) (j := 1) hY dX2_addSpan_4 rfl rfl rfl (by decide) hin6 (by decide) rfl (List.mem_of_getElem? (i := 2) rfl) (fun v2 => ?_)
  refine xv_iload_n rfl rfl hY dX2_addSpan_7 rfl ?_
  refine xv_iload_n rfl rfl hY dX2_addSpan_8 rfl ?_
  refine xv_iload_n rfl rfl hY dX2_addSpan_9 rfl ?_
  refine xv_iload rfl hY dX2_addSpan_10 rfl ?_
  refine xv_callVI (ci := 5) (y := yX5_append) (ws := wsX5_append) (rm := rm_X5_append) (mc := 0) (ms := 0) (n := 4) (av := [xi a1, xi a2, xi a3, xi a4]) hY dX2_addSpan_12 rfl rfl rfl (by decide) (fun q hq => by rw [hfl]; exact S_X5_append Y.1.2.1 v2 a1 a2 a3 a4 M q hq) (cwV 4 hY.2.2.2.2.1 gX2_addSpan_X5_append rfl rfl rfl (by decide +kernel) ⟨(by rw [hR]; exact Nat.le_of_ble_eq_true rfl), (by rw [hR]; exact Nat.le_of_ble_eq_true rfl)⟩) rfl (Nat.le_of_ble_eq_true rfl) ⟨(by rw [hR]; exact Nat.le_of_ble_eq_true rfl), (by rw [hR]; exact Nat.le_of_ble_eq_true rfl)⟩ (fun z4 M3 => ?_)
  refine xv_istore (L' := [some (xr a0), some (xi a1), some (xi a2), some (xi a3), some (xi a4), some (xi z4)]) hY dX2_addSpan_15 rfl (by rw [hnL]; decide) rfl rfl ?_
  refine xv_aload_n rfl rfl hY dX2_addSpan_17 rfl ?_
  refine xv_callVV (ci := 2) (y := yX2_layOut) (ws := wsX2_layOut) (rm := rm_X2_layOut) (mc := 0) (ms := 0) (n := 0) (av := []) hY dX2_addSpan_18 rfl rfl rfl (by decide) (fun q hq => by rw [hfl]; exact S_X2_layOut Y.1.2.1 a0 M3 q hq) (cwV 0 hY.2.2.2.2.1 gX2_addSpan_X2_layOut rfl rfl rfl (by decide +kernel) ⟨(by rw [hR]; exact Nat.le_of_ble_eq_true rfl), (by rw [hR]; exact Nat.le_of_ble_eq_true rfl)⟩) rfl (Nat.le_of_ble_eq_true rfl) ⟨(by rw [hR]; exact Nat.le_of_ble_eq_true rfl), (by rw [hR]; exact Nat.le_of_ble_eq_true rfl)⟩ (fun _ M5 => ?_)
  refine xv_aload_n rfl rfl hY dX2_addSpan_21 rfl ?_
  refine xv_callVI (ci := 2) (y := yX2_tellAll) (ws := wsX2_tellAll) (rm := rm_X2_tellAll) (mc := 0) (ms := 0) (n := 0) (av := []) hY dX2_addSpan_22 rfl rfl rfl (by decide) (fun q hq => by rw [hfl]; exact S_X2_tellAll Y.1.2.1 a0 M5 q hq) (cwV 0 hY.2.2.2.2.1 gX2_addSpan_X2_tellAll rfl rfl rfl (by decide +kernel) ⟨(by rw [hR]; exact Nat.le_of_ble_eq_true rfl), (by rw [hR]; exact Nat.le_of_ble_eq_true rfl)⟩) rfl (Nat.le_of_ble_eq_true rfl) ⟨(by rw [hR]; exact Nat.le_of_ble_eq_true rfl), (by rw [hR]; exact Nat.le_of_ble_eq_true rfl)⟩ (fun z7 M6 => ?_)
  refine xv_pop hY dX2_addSpan_25 rfl ?_
  refine xv_iload rfl hY dX2_addSpan_26 rfl ?_
  exact xv_ireti hY hfl dX2_addSpan_28 hret (Nat.le_of_ble_eq_true rfl) (Nat.le_of_ble_eq_true rfl)
set_option maxHeartbeats 4000000 in
set_option maxRecDepth 100000 in
theorem S_X5_takeAway (l : Launch) (a0 : Nat) (a1 : Int) (M : xv_M) (q : Unit × xv_M) (h : D_X5_takeAway a0 a1 M = some q) : xv_Met l yX5_takeAway wsX5_takeAway rm_X5_takeAway 0 0 false [xr a0, xi a1] M (xv_qV false q) := by
  refine xv_enter (cc := cX5_takeAway) (nL := 2) (ret := none) rfl (by decide +kernel) (Nat.le_of_ble_eq_true rfl) h ?_
  intro Y hY0 hl hR hnL hfl hret hnm0
  have hY : xv_ok Y cX5_takeAway wsX5_takeAway RX5 := hY0
  have hin5 : ∀ w ∈ u_ws RX5 TX5 8, w ∈ wsX5_takeAway := fun _ h => List.mem_cons_of_mem _ (List.mem_append_right _ h)
  unfold D_X5_takeAway
  refine xv_mk (L' := [some (xr a0), some (xi a1)]) [true, true] rfl ?_
  refine xv_aload_n rfl rfl hY dX5_takeAway_0 rfl ?_
  refine xv_dupr hY dX5_takeAway_1 rfl ?_
  refine xv_getJ (ci := 5) (j := 1) hY dX5_takeAway_2 rfl rfl rfl (by decide) hin5 (by decide) rfl (List.mem_of_getElem? (i := 1) rfl) (fun v1 => ?_)
  refine xv_lconst (v := 1) rfl hY dX5_takeAway_5 rfl ?_
  refine xv_iload_n rfl rfl hY dX5_takeAway_6 rfl ?_
  refine xv_lshl hY dX5_takeAway_7 rfl ?_
  refine xv_ldc2 (v := (-1 : Int64)) hY dX5_takeAway_8 rfl (by decide +kernel) ?_
  refine xv_lxor hY dX5_takeAway_11 rfl ?_
  refine xv_land hY dX5_takeAway_12 rfl ?_
  refine xv_putJ (ci := 5) (j := 1) hY dX5_takeAway_13 rfl rfl rfl (by decide) hin5 (by decide) rfl (List.mem_of_getElem? (i := 1) rfl) tyX5_ok nmX5 (Or.inl rfl) rfl (fun M2 => ?_)
  exact xv_vretu hY hfl dX5_takeAway_16 hret (Nat.le_of_ble_eq_true rfl) (Nat.le_of_ble_eq_true rfl)
set_option maxHeartbeats 4000000 in
set_option maxRecDepth 100000 in
theorem S_X2_removeSpan (l : Launch) (a0 : Nat) (a1 : Int) (M : xv_M) (q : Int × xv_M) (h : D_X2_removeSpan a0 a1 M = some q) : xv_Met l yX2_removeSpan wsX2_removeSpan rm_X2_removeSpan 0 0 false [xr a0, xi a1] M (xv_qI false q) := by
  refine xv_enter (cc := cX2_removeSpan) (nL := 2) (ret := (some .int)) rfl (by decide +kernel) (Nat.le_of_ble_eq_true rfl) h ?_
  intro Y hY0 hl hR hnL hfl hret hnm0
  have hY : xv_ok Y cX2_removeSpan wsX2_removeSpan RX2 := hY0
  have hin2 : ∀ w ∈ u_ws RX2 TX2 3, w ∈ wsX2_removeSpan := fun _ h => List.mem_cons_of_mem _ (List.mem_append_left _ (List.mem_append_left _ (List.mem_append_left _ (List.mem_append_left _ (List.mem_append_left _ (List.mem_append_left _ (List.mem_append_left _ (List.mem_append_right _ h))))))))
  have hin6 : ∀ w ∈ u_ws RX6 TX6 4, w ∈ wsX2_removeSpan := fun _ h => List.mem_cons_of_mem _ (List.mem_append_left _ (List.mem_append_left _ (List.mem_append_left _ (List.mem_append_left _ (List.mem_append_left _ (List.mem_append_left _ (List.mem_append_right _ h)))))))
  unfold D_X2_removeSpan
  refine xv_mk (L' := [some (xr a0), some (xi a1)]) [true, true] rfl ?_
  refine xv_aload_n rfl rfl hY dX2_removeSpan_0 rfl ?_
  refine xv_getP (ci := 2) (j := 0) hY dX2_removeSpan_1 rfl rfl rfl (by decide) hin2 (by decide) rfl (List.mem_of_getElem? (i := 1) rfl) (fun v1 => ?_)
  refine xv_getP (ci := 6) (j := 1) hY dX2_removeSpan_4 rfl rfl rfl (by decide) hin6 (by decide) rfl (List.mem_of_getElem? (i := 2) rfl) (fun v2 => ?_)
  refine xv_iload_n rfl rfl hY dX2_removeSpan_7 rfl ?_
  refine xv_callVV (ci := 5) (y := yX5_takeAway) (ws := wsX5_takeAway) (rm := rm_X5_takeAway) (mc := 0) (ms := 0) (n := 1) (av := [xi a1]) hY dX2_removeSpan_8 rfl rfl rfl (by decide) (fun q hq => by rw [hfl]; exact S_X5_takeAway Y.1.2.1 v2 a1 M q hq) (cwV 1 hY.2.2.2.2.1 gX2_removeSpan_X5_takeAway rfl rfl rfl (by decide +kernel) ⟨(by rw [hR]; exact Nat.le_of_ble_eq_true rfl), (by rw [hR]; exact Nat.le_of_ble_eq_true rfl)⟩) rfl (Nat.le_of_ble_eq_true rfl) ⟨(by rw [hR]; exact Nat.le_of_ble_eq_true rfl), (by rw [hR]; exact Nat.le_of_ble_eq_true rfl)⟩ (fun _ M3 => ?_)
  refine xv_aload_n rfl rfl hY dX2_removeSpan_11 rfl ?_
  refine xv_callVV (ci := 2) (y := yX2_layOut) (ws := wsX2_layOut) (rm := rm_X2_layOut) (mc := 0) (ms := 0) (n := 0) (av := []) hY dX2_removeSpan_12 rfl rfl rfl (by decide) (fun q hq => by rw [hfl]; exact S_X2_layOut Y.1.2.1 a0 M3 q hq) (cwV 0 hY.2.2.2.2.1 gX2_removeSpan_X2_layOut rfl rfl rfl (by decide +kernel) ⟨(by rw [hR]; exact Nat.le_of_ble_eq_true rfl), (by rw [hR]; exact Nat.le_of_ble_eq_true rfl)⟩) rfl (Nat.le_of_ble_eq_true rfl) ⟨(by rw [hR]; exact Nat.le_of_ble_eq_true rfl), (by rw [hR]; exact Nat.le_of_ble_eq_true rfl)⟩ (fun _ M4 => ?_)
  refine xv_aload_n rfl rfl hY dX2_removeSpan_15 rfl ?_
  refine xv_callVI (ci := 2) (y := yX2_tellAll) (ws := wsX2_tellAll) (rm := rm_X2_tellAll) (mc := 0) (ms := 0) (n := 0) (av := []) hY dX2_removeSpan_16 rfl rfl rfl (by decide) (fun q hq => by rw [hfl]; exact S_X2_tellAll Y.1.2.1 a0 M4 q hq) (cwV 0 hY.2.2.2.2.1 gX2_removeSpan_X2_tellAll rfl rfl rfl (by decide +kernel) ⟨(by rw [hR]; exact Nat.le_of_ble_eq_true rfl), (by rw [hR]; exact Nat.le_of_ble_eq_true rfl)⟩) rfl (Nat.le_of_ble_eq_true rfl) ⟨(by rw [hR]; exact Nat.le_of_ble_eq_true rfl), (by rw [hR]; exact Nat.le_of_ble_eq_true rfl)⟩ (fun z6 M5 => ?_)
  exact xv_ireti hY hfl dX2_removeSpan_19 hret (Nat.le_of_ble_eq_true rfl) (Nat.le_of_ble_eq_true rfl)
set_option maxHeartbeats 4000000 in
set_option maxRecDepth 100000 in
theorem S_X5_shift (l : Launch) (a0 : Nat) (a1 : Int) (a2 : Int) (M : xv_M) (q : Unit × xv_M) (h : D_X5_shift a0 a1 a2 M = some q) : xv_Met l yX5_shift wsX5_shift rm_X5_shift 0 0 false [xr a0, xi a1, xi a2] M (xv_qV false q) := by
  refine xv_enter (cc := cX5_shift) (nL := 3) (ret := none) rfl (by decide +kernel) (Nat.le_of_ble_eq_true rfl) h ?_
  intro Y hY0 hl hR hnL hfl hret hnm0
  have hY : xv_ok Y cX5_shift wsX5_shift RX5 := hY0
  have hin5 : ∀ w ∈ u_ws RX5 TX5 8, w ∈ wsX5_shift := fun _ h => List.mem_cons_of_mem _ (List.mem_append_right _ h)
  unfold D_X5_shift
  refine xv_mk (L' := [some (xr a0), some (xi a1), some (xi a2)]) [true, true, true] rfl ?_
  refine xv_aload_n rfl rfl hY dX5_shift_0 rfl ?_
  refine xv_getP (ci := 5) (j := 2) hY dX5_shift_1 rfl rfl rfl (by decide) hin5 (by decide) rfl (List.mem_of_getElem? (i := 1) rfl) (fun v1 => ?_)
  refine xv_iload_n rfl rfl hY dX5_shift_4 rfl ?_
  refine xv_dup2 hY dX5_shift_5 rfl ?_
  refine xv_iald hY dX5_shift_6 rfl (fun v2 => ?_)
  refine xv_iload_n rfl rfl hY dX5_shift_7 rfl ?_
  refine xv_iadd hY dX5_shift_8 rfl ?_
  refine xv_iast hY hfl dX5_shift_9 rfl (fun M3 => ?_)
  refine xv_aload_n rfl rfl hY dX5_shift_10 rfl ?_
  refine xv_getP (ci := 5) (j := 3) hY dX5_shift_11 rfl rfl rfl (by decide) hin5 (by decide) rfl (List.mem_of_getElem? (i := 2) rfl) (fun v4 => ?_)
  refine xv_iload_n rfl rfl hY dX5_shift_14 rfl ?_
  refine xv_dup2 hY dX5_shift_15 rfl ?_
  refine xv_iald hY dX5_shift_16 rfl (fun v5 => ?_)
  refine xv_iload_n rfl rfl hY dX5_shift_17 rfl ?_
  refine xv_iadd hY dX5_shift_18 rfl ?_
  refine xv_iast hY hfl dX5_shift_19 rfl (fun M6 => ?_)
  refine xv_aload_n rfl rfl hY dX5_shift_20 rfl ?_
  refine xv_getP (ci := 5) (j := 4) hY dX5_shift_21 rfl rfl rfl (by decide) hin5 (by decide) rfl (List.mem_of_getElem? (i := 3) rfl) (fun v7 => ?_)
  refine xv_iload_n rfl rfl hY dX5_shift_24 rfl ?_
  refine xv_dup2 hY dX5_shift_25 rfl ?_
  refine xv_iald hY dX5_shift_26 rfl (fun v8 => ?_)
  refine xv_iload_n rfl rfl hY dX5_shift_27 rfl ?_
  refine xv_iadd hY dX5_shift_28 rfl ?_
  refine xv_iast hY hfl dX5_shift_29 rfl (fun M9 => ?_)
  refine xv_aload_n rfl rfl hY dX5_shift_30 rfl ?_
  refine xv_getP (ci := 5) (j := 5) hY dX5_shift_31 rfl rfl rfl (by decide) hin5 (by decide) rfl (List.mem_of_getElem? (i := 4) rfl) (fun v10 => ?_)
  refine xv_iload_n rfl rfl hY dX5_shift_34 rfl ?_
  refine xv_dup2 hY dX5_shift_35 rfl ?_
  refine xv_iald hY dX5_shift_36 rfl (fun v11 => ?_)
  refine xv_iload_n rfl rfl hY dX5_shift_37 rfl ?_
  refine xv_iadd hY dX5_shift_38 rfl ?_
  refine xv_iast hY hfl dX5_shift_39 rfl (fun M12 => ?_)
  exact xv_vretu hY hfl dX5_shift_40 hret (Nat.le_of_ble_eq_true rfl) (Nat.le_of_ble_eq_true rfl)
set_option maxHeartbeats 4000000 in
set_option maxRecDepth 100000 in
theorem S_X2_moveSpan (l : Launch) (a0 : Nat) (a1 : Int) (a2 : Int) (M : xv_M) (q : Int × xv_M) (h : D_X2_moveSpan a0 a1 a2 M = some q) : xv_Met l yX2_moveSpan wsX2_moveSpan rm_X2_moveSpan 0 0 false [xr a0, xi a1, xi a2] M (xv_qI false q) := by
  refine xv_enter (cc := cX2_moveSpan) (nL := 3) (ret := (some .int)) rfl (by decide +kernel) (Nat.le_of_ble_eq_true rfl) h ?_
  intro Y hY0 hl hR hnL hfl hret hnm0
  have hY : xv_ok Y cX2_moveSpan wsX2_moveSpan RX2 := hY0
  have hin2 : ∀ w ∈ u_ws RX2 TX2 3, w ∈ wsX2_moveSpan := fun _ h => List.mem_cons_of_mem _ (List.mem_append_left _ (List.mem_append_left _ (List.mem_append_left _ (List.mem_append_left _ (List.mem_append_left _ (List.mem_append_left _ (List.mem_append_left _ (List.mem_append_right _ h))))))))
  have hin6 : ∀ w ∈ u_ws RX6 TX6 4, w ∈ wsX2_moveSpan := fun _ h => List.mem_cons_of_mem _ (List.mem_append_left _ (List.mem_append_left _ (List.mem_append_left _ (List.mem_append_left _ (List.mem_append_left _ (List.mem_append_left _ (List.mem_append_right _ h)))))))
  unfold D_X2_moveSpan
  refine xv_mk (L' := [some (xr a0), some (xi a1), some (xi a2)]) [true, true, true] rfl ?_
  refine xv_aload_n rfl rfl hY dX2_moveSpan_0 rfl ?_
  refine xv_getP (ci := 2) (j := 0) hY dX2_moveSpan_1 rfl rfl rfl (by decide) hin2 (by decide) rfl (List.mem_of_getElem? (i := 1) rfl) (fun v1 => ?_)
  refine xv_getP (ci := 6) (j := 1) hY dX2_moveSpan_4 rfl rfl rfl (by decide) hin6 (by decide) rfl (List.mem_of_getElem? (i := 2) rfl) (fun v2 => ?_)
  refine xv_iload_n rfl rfl hY dX2_moveSpan_7 rfl ?_
  refine xv_iload_n rfl rfl hY dX2_moveSpan_8 rfl ?_
  refine xv_callVV (ci := 5) (y := yX5_shift) (ws := wsX5_shift) (rm := rm_X5_shift) (mc := 0) (ms := 0) (n := 2) (av := [xi a1, xi a2]) hY dX2_moveSpan_9 rfl rfl rfl (by decide) (fun q hq => by rw [hfl]; exact S_X5_shift Y.1.2.1 v2 a1 a2 M q hq) (cwV 2 hY.2.2.2.2.1 gX2_moveSpan_X5_shift rfl rfl rfl (by decide +kernel) ⟨(by rw [hR]; exact Nat.le_of_ble_eq_true rfl), (by rw [hR]; exact Nat.le_of_ble_eq_true rfl)⟩) rfl (Nat.le_of_ble_eq_true rfl) ⟨(by rw [hR]; exact Nat.le_of_ble_eq_true rfl), (by rw [hR]; exact Nat.le_of_ble_eq_true rfl)⟩ (fun _ M3 => ?_)
  refine xv_aload_n rfl rfl hY dX2_moveSpan_12 rfl ?_
  refine xv_callVV (ci := 2) (y := yX2_layOut) (ws := wsX2_layOut) (rm := rm_X2_layOut) (mc := 0) (ms := 0) (n := 0) (av := []) hY dX2_moveSpan_13 rfl rfl rfl (by decide) (fun q hq => by rw [hfl]; exact S_X2_layOut Y.1.2.1 a0 M3 q hq) (cwV 0 hY.2.2.2.2.1 gX2_moveSpan_X2_layOut rfl rfl rfl (by decide +kernel) ⟨(by rw [hR]; exact Nat.le_of_ble_eq_true rfl), (by rw [hR]; exact Nat.le_of_ble_eq_true rfl)⟩) rfl (Nat.le_of_ble_eq_true rfl) ⟨(by rw [hR]; exact Nat.le_of_ble_eq_true rfl), (by rw [hR]; exact Nat.le_of_ble_eq_true rfl)⟩ (fun _ M4 => ?_)
  refine xv_aload_n rfl rfl hY dX2_moveSpan_16 rfl ?_
  refine xv_callVI (ci := 2) (y := yX2_tellAll) (ws := wsX2_tellAll) (rm := rm_X2_tellAll) (mc := 0) (ms := 0) (n := 0) (av := []) hY dX2_moveSpan_17 rfl rfl rfl (by decide) (fun q hq => by rw [hfl]; exact S_X2_tellAll Y.1.2.1 a0 M4 q hq) (cwV 0 hY.2.2.2.2.1 gX2_moveSpan_X2_tellAll rfl rfl rfl (by decide +kernel) ⟨(by rw [hR]; exact Nat.le_of_ble_eq_true rfl), (by rw [hR]; exact Nat.le_of_ble_eq_true rfl)⟩) rfl (Nat.le_of_ble_eq_true rfl) ⟨(by rw [hR]; exact Nat.le_of_ble_eq_true rfl), (by rw [hR]; exact Nat.le_of_ble_eq_true rfl)⟩ (fun z6 M5 => ?_)
  exact xv_ireti hY hfl dX2_moveSpan_20 hret (Nat.le_of_ble_eq_true rfl) (Nat.le_of_ble_eq_true rfl)
