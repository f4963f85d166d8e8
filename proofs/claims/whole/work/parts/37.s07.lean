set_option maxHeartbeats 4000000 in
set_option maxRecDepth 100000 in
theorem S_X12_allChanges (l : Launch) (a0 : Nat) (M : xv_M) (q : Int × xv_M) (h : D_X12_allChanges a0 M = some q) : xv_Met l yX12_allChanges wsX12_allChanges rm_X12_allChanges 0 0 false [xr a0] M (xv_qI false q) := by
  refine xv_enter (cc := cX12_allChanges) (nL := 3) (ret := (some .int)) rfl (by decide +kernel) (Nat.le_of_ble_eq_true rfl) h ?_
  intro Y hY0 hl hR hnL hfl hret hnm0
  have hY : xv_ok Y cX12_allChanges wsX12_allChanges RX12 := hY0
  have hin12 : ∀ w ∈ u_ws RX12 TX12 18, w ∈ wsX12_allChanges := fun _ h => List.mem_cons_of_mem _ (List.mem_append_right _ h)
  unfold D_X12_allChanges
  refine xv_mk (L' := [some (xr a0), none, none]) [true, true, true] rfl ?_
  refine xv_iconst hY dX12_allChanges_0 rfl ?_
  refine xv_istore_n (L' := [some (xr a0), some (xi (0 : Int)), none]) hY dX12_allChanges_1 rfl rfl (by rw [hnL]; decide) rfl rfl ?_
  refine xv_iconst hY dX12_allChanges_2 rfl ?_
  refine xv_istore_n (L' := [some (xr a0), some (xi (0 : Int)), some (xi (0 : Int))]) hY dX12_allChanges_3 rfl rfl (by rw [hnL]; decide) rfl rfl ?_
  refine xv_mk (L' := [some (xr a0), some (xi (0 : Int)), some (xi (0 : Int))]) [true, true, true] rfl ?_
  refine xv_loop (σ := Int × Int × xv_M) (fun x1 => [some (xr a0), some (xi x1.1), some (xi x1.2.1)]) (fun x1 => x1.2.2) (fun f2 hf2 x1 => ?_) xv_fuel ((0 : Int), (0 : Int), M)
  refine xv_iload_n rfl rfl hY dX12_allChanges_4 rfl ?_
  refine xv_aload_n rfl rfl hY dX12_allChanges_5 rfl ?_
  refine xv_getP (ci := 12) (j := 0) hY dX12_allChanges_6 rfl rfl rfl (by decide) hin12 (by decide) rfl (List.mem_of_getElem? (i := 1) rfl) (fun v3 => ?_)
  refine xv_iconst hY dX12_allChanges_9 rfl ?_
  refine xv_iald hY dX12_allChanges_10 rfl (fun v4 => ?_)
  refine xv_icmp_ge (t := 28) hY dX12_allChanges_11 (by decide) rfl ?_ ?_
  · refine xv_iload_n rfl rfl hY dX12_allChanges_28 rfl ?_
    exact xv_ireti hY hfl dX12_allChanges_29 hret (Nat.le_of_ble_eq_true rfl) (Nat.le_of_ble_eq_true rfl)
  · refine xv_iload_n rfl rfl hY dX12_allChanges_14 rfl ?_
    refine xv_aload_n rfl rfl hY dX12_allChanges_15 rfl ?_
    refine xv_iload_n rfl rfl hY dX12_allChanges_16 rfl ?_
    refine xv_callVI (ci := 12) (y := yX12_changes) (ws := wsX12_changes) (rm := rm_X12_changes) (mc := 0) (ms := 0) (n := 1) (av := [xi x1.2.1]) hY dX12_allChanges_17 rfl rfl rfl (by decide) (fun q hq => by rw [hfl]; exact S_X12_changes Y.1.2.1 a0 x1.2.1 x1.2.2 q hq) (cwV 1 hY.2.2.2.2.1 gX12_allChanges_X12_changes rfl rfl rfl (by decide +kernel) ⟨(by rw [hR]; exact Nat.le_of_ble_eq_true rfl), (by rw [hR]; exact Nat.le_of_ble_eq_true rfl)⟩) rfl (Nat.le_of_ble_eq_true rfl) ⟨(by rw [hR]; exact Nat.le_of_ble_eq_true rfl), (by rw [hR]; exact Nat.le_of_ble_eq_true rfl)⟩ (fun z6 M5 => ?_)
    refine xv_iadd hY dX12_allChanges_20 rfl ?_
    refine xv_istore_n (L' := [some (xr a0), some (xi (x1.1 + z6)), some (xi x1.2.1)]) hY dX12_allChanges_21 rfl rfl (by rw [hnL]; decide) rfl rfl ?_
    refine xv_iinc (L' := [some (xr a0), some (xi (x1.1 + z6)), some (xi (x1.2.1 + 1))]) hY dX12_allChanges_22 rfl (by rw [hnL]; decide) rfl rfl rfl ?_
    refine xv_goto (pc' := 4) hY dX12_allChanges_25 (by decide) ?_
    exact xv_mk (L' := [some (xr a0), some (xi (x1.1 + z6)), some (xi (x1.2.1 + 1))]) [true, true, true] rfl (hf2 ((x1.1 + z6), (x1.2.1 + 1), M5))
set_option maxHeartbeats 4000000 in
set_option maxRecDepth 100000 in
theorem S_X12_adds (l : Launch) (a0 : Nat) (a1 : Int) (a2 : Int) (a3 : Int) (a4 : Int) (M : xv_M) (q : Int × xv_M) (h : D_X12_adds a0 a1 a2 a3 a4 M = some q) : xv_Met l yX12_adds wsX12_adds rm_X12_adds 0 0 false [xr a0, xi a1, xi a2, xi a3, xi a4] M (xv_qI false q) := by
  refine xv_enter (cc := cX12_adds) (nL := 6) (ret := (some .int)) rfl (by decide +kernel) (Nat.le_of_ble_eq_true rfl) h ?_
  intro Y hY0 hl hR hnL hfl hret hnm0
  have hY : xv_ok Y cX12_adds wsX12_adds RX12 := hY0
  have hin12 : ∀ w ∈ u_ws RX12 TX12 18, w ∈ wsX12_adds := fun _ h => List.mem_cons_of_mem _ (List.mem_append_right _ h)
  unfold D_X12_adds
  refine xv_mk (L' := [some (xr a0), some (xi a1), some (xi a2), some (xi a3), some (xi a4), none]) [true, true, true, true, true, true] rfl ?_
  refine xv_aload_n rfl rfl hY dX12_adds_0 rfl ?_
  refine xv_getP (ci := 12) (j := 0) hY dX12_adds_1 rfl rfl rfl (by decide) hin12 (by decide) rfl (List.mem_of_getElem? (i := 1) rfl) (fun v1 => ?_)
  refine xv_iconst hY dX12_adds_4 rfl ?_
  refine xv_iald hY dX12_adds_5 rfl (fun v2 => ?_)
  refine xv_istore (L' := [some (xr a0), some (xi a1), some (xi a2), some (xi a3), some (xi a4), some (xi v2)]) hY dX12_adds_6 rfl (by rw [hnL]; decide) rfl rfl ?_
  refine xv_aload_n rfl rfl hY dX12_adds_8 rfl ?_
  refine xv_iload rfl hY dX12_adds_9 rfl ?_
  refine xv_iconst hY dX12_adds_11 rfl ?_
  refine xv_iload_n rfl rfl hY dX12_adds_12 rfl ?_
  refine xv_callVV (ci := 12) (y := yX12_puts) (ws := wsX12_puts) (rm := rm_X12_puts) (mc := 0) (ms := 0) (n := 3) (av := [xi v2, xi (0 : Int), xi a1]) hY dX12_adds_13 rfl rfl rfl (by decide) (fun q hq => by rw [hfl]; exact S_X12_puts Y.1.2.1 a0 v2 (0 : Int) a1 M q hq) (cwV 3 hY.2.2.2.2.1 gX12_adds_X12_puts rfl rfl rfl (by decide +kernel) ⟨(by rw [hR]; exact Nat.le_of_ble_eq_true rfl), (by rw [hR]; exact Nat.le_of_ble_eq_true rfl)⟩) rfl (Nat.le_of_ble_eq_true rfl) ⟨(by rw [hR]; exact Nat.le_of_ble_eq_true rfl), (by rw [hR]; exact Nat.le_of_ble_eq_true rfl)⟩ (fun _ M3 => ?_)
  refine xv_aload_n rfl rfl hY dX12_adds_16 rfl ?_
  refine xv_iload rfl hY dX12_adds_17 rfl ?_
  refine xv_iconst hY dX12_adds_19 rfl ?_
  refine xv_iload_n rfl rfl hY dX12_adds_20 rfl ?_
  refine xv_callVV (ci := 12) (y := yX12_puts) (ws := wsX12_puts) (rm := rm_X12_puts) (mc := 0) (ms := 0) (n := 3) (av := [xi v2, xi (1 : Int), xi a2]) hY dX12_adds_21 rfl rfl rfl (by decide) (fun q hq => by rw [hfl]; exact S_X12_puts Y.1.2.1 a0 v2 (1 : Int) a2 M3 q hq) (cwV 3 hY.2.2.2.2.1 gX12_adds_X12_puts rfl rfl rfl (by decide +kernel) ⟨(by rw [hR]; exact Nat.le_of_ble_eq_true rfl), (by rw [hR]; exact Nat.le_of_ble_eq_true rfl)⟩) rfl (Nat.le_of_ble_eq_true rfl) ⟨(by rw [hR]; exact Nat.le_of_ble_eq_true rfl), (by rw [hR]; exact Nat.le_of_ble_eq_true rfl)⟩ (fun _ M4 => ?_)
  refine xv_aload_n rfl rfl hY dX12_adds_24 rfl ?_
  refine xv_iload rfl hY dX12_adds_25 rfl ?_
  refine xv_iconst hY dX12_adds_27 rfl ?_
  refine xv_iload_n rfl rfl hY dX12_adds_28 rfl ?_
  refine xv_callVV (ci := 12) (y := yX12_puts) (ws := wsX12_puts) (rm := rm_X12_puts) (mc := 0) (ms := 0) (n := 3) (av := [xi v2, xi (2 : Int), xi a3]) hY dX12_adds_29 rfl rfl rfl (by decide) (fun q hq => by rw [hfl]; exact S_X12_puts Y.1.2.1 a0 v2 (2 : Int) a3 M4 q hq) (cwV 3 hY.2.2.2.2.1 gX12_adds_X12_puts rfl rfl rfl (by decide +kernel) ⟨(by rw [hR]; exact Nat.le_of_ble_eq_true rfl), (by rw [hR]; exact Nat.le_of_ble_eq_true rfl)⟩) rfl (Nat.le_of_ble_eq_true rfl) ⟨(by rw [hR]; exact Nat.le_of_ble_eq_true rfl), (by rw [hR]; exact Nat.le_of_ble_eq_true rfl)⟩ (fun _ M5 => ?_)
  refine xv_aload_n rfl rfl hY dX12_adds_32 rfl ?_
  refine xv_iload rfl hY dX12_adds_33 rfl ?_
  refine xv_iconst hY dX12_adds_35 rfl ?_
  refine xv_iload rfl hY dX12_adds_36 rfl ?_
  refine xv_callVV (ci := 12) (y := yX12_puts) (ws := wsX12_puts) (rm := rm_X12_puts) (mc := 0) (ms := 0) (n := 3) (av := [xi v2, xi (3 : Int), xi a4]) hY dX12_adds_38 rfl rfl rfl (by decide) (fun q hq => by rw [hfl]; exact S_X12_puts Y.1.2.1 a0 v2 (3 : Int) a4 M5 q hq) (cwV 3 hY.2.2.2.2.1 gX12_adds_X12_puts rfl rfl rfl (by decide +kernel) ⟨(by rw [hR]; exact Nat.le_of_ble_eq_true rfl), (by rw [hR]; exact Nat.le_of_ble_eq_true rfl)⟩) rfl (Nat.le_of_ble_eq_true rfl) ⟨(by rw [hR]; exact Nat.le_of_ble_eq_true rfl), (by rw [hR]; exact Nat.le_of_ble_eq_true rfl)⟩ (fun _ M6 => ?_)
  refine xv_aload_n rfl rfl hY dX12_adds_41 rfl ?_
  refine xv_iload rfl hY dX12_adds_42 rfl ?_
  refine xv_iconst hY dX12_adds_44 rfl ?_
  refine xv_iconst hY dX12_adds_45 rfl ?_
  refine xv_callVV (ci := 12) (y := yX12_puts) (ws := wsX12_puts) (rm := rm_X12_puts) (mc := 0) (ms := 0) (n := 3) (av := [xi v2, xi (4 : Int), xi (1 : Int)]) hY dX12_adds_46 rfl rfl rfl (by decide) (fun q hq => by rw [hfl]; exact S_X12_puts Y.1.2.1 a0 v2 (4 : Int) (1 : Int) M6 q hq) (cwV 3 hY.2.2.2.2.1 gX12_adds_X12_puts rfl rfl rfl (by decide +kernel) ⟨(by rw [hR]; exact Nat.le_of_ble_eq_true rfl), (by rw [hR]; exact Nat.le_of_ble_eq_true rfl)⟩) rfl (Nat.le_of_ble_eq_true rfl) ⟨(by rw [hR]; exact Nat.le_of_ble_eq_true rfl), (by rw [hR]; exact Nat.le_of_ble_eq_true rfl)⟩ (fun _ M7 => ?_)
  refine xv_aload_n rfl rfl hY dX12_adds_49 rfl ?_
  refine xv_iload rfl hY dX12_adds_50 rfl ?_
  refine xv_iconst hY dX12_adds_52 rfl ?_
  refine xv_iconst hY dX12_adds_53 rfl ?_
  refine xv_callVV (ci := 12) (y := yX12_puts) (ws := wsX12_puts) (rm := rm_X12_puts) (mc := 0) (ms := 0) (n := 3) (av := [xi v2, xi (5 : Int), xi (0 : Int)]) hY dX12_adds_54 rfl rfl rfl (by decide) (fun q hq => by rw [hfl]; exact S_X12_puts Y.1.2.1 a0 v2 (5 : Int) (0 : Int) M7 q hq) (cwV 3 hY.2.2.2.2.1 gX12_adds_X12_puts rfl rfl rfl (by decide +kernel) ⟨(by rw [hR]; exact Nat.le_of_ble_eq_true rfl), (by rw [hR]; exact Nat.le_of_ble_eq_true rfl)⟩) rfl (Nat.le_of_ble_eq_true rfl) ⟨(by rw [hR]; exact Nat.le_of_ble_eq_true rfl), (by rw [hR]; exact Nat.le_of_ble_eq_true rfl)⟩ (fun _ M8 => ?_)
  refine xv_aload_n rfl rfl hY dX12_adds_57 rfl ?_
  refine xv_iload rfl hY dX12_adds_58 rfl ?_
  refine xv_bipush (by decide) hY dX12_adds_60 rfl ?_
  refine xv_iconst hY dX12_adds_62 rfl ?_
  refine xv_callVV (ci := 12) (y := yX12_puts) (ws := wsX12_puts) (rm := rm_X12_puts) (mc := 0) (ms := 0) (n := 3) (av := [xi v2, xi (6 : Int), xi (0 : Int)]) hY dX12_adds_63 rfl rfl rfl (by decide) (fun q hq => by rw [hfl]; exact S_X12_puts Y.1.2.1 a0 v2 (6 : Int) (0 : Int) M8 q hq) (cwV 3 hY.2.2.2.2.1 gX12_adds_X12_puts rfl rfl rfl (by decide +kernel) ⟨(by rw [hR]; exact Nat.le_of_ble_eq_true rfl), (by rw [hR]; exact Nat.le_of_ble_eq_true rfl)⟩) rfl (Nat.le_of_ble_eq_true rfl) ⟨(by rw [hR]; exact Nat.le_of_ble_eq_true rfl), (by rw [hR]; exact Nat.le_of_ble_eq_true rfl)⟩ (fun _ M9 => ?_)
  refine xv_aload_n rfl rfl hY dX12_adds_66 rfl ?_
  refine xv_getP (ci := 12) (j := 0) hY dX12_adds_67 rfl rfl rfl (by decide) hin12 (by decide) rfl (List.mem_of_getElem? (i := 1) rfl) (fun v10 => ?_)
  refine xv_iconst hY dX12_adds_70 rfl ?_
  refine xv_dup2 hY dX12_adds_71 rfl ?_
  refine xv_iald hY dX12_adds_72 rfl (fun v11 => ?_)
  refine xv_iconst hY dX12_adds_73 rfl ?_
  refine xv_iadd hY dX12_adds_74 rfl ?_
  refine xv_iast hY hfl dX12_adds_75 rfl (fun M12 => ?_)
  refine xv_aload_n rfl rfl hY dX12_adds_76 rfl ?_
  refine xv_callVI (ci := 12) (y := yX12_allChanges) (ws := wsX12_allChanges) (rm := rm_X12_allChanges) (mc := 0) (ms := 0) (n := 0) (av := []) hY dX12_adds_77 rfl rfl rfl (by decide) (fun q hq => by rw [hfl]; exact S_X12_allChanges Y.1.2.1 a0 M12 q hq) (cwV 0 hY.2.2.2.2.1 gX12_adds_X12_allChanges rfl rfl rfl (by decide +kernel) ⟨(by rw [hR]; exact Nat.le_of_ble_eq_true rfl), (by rw [hR]; exact Nat.le_of_ble_eq_true rfl)⟩) rfl (Nat.le_of_ble_eq_true rfl) ⟨(by rw [hR]; exact Nat.le_of_ble_eq_true rfl), (by rw [hR]; exact Nat.le_of_ble_eq_true rfl)⟩ (fun z14 M13 => ?_)
  refine xv_pop hY dX12_adds_80 rfl ?_
  refine xv_iload rfl hY dX12_adds_81 rfl ?_
  exact xv_ireti hY hfl dX12_adds_83 hret (Nat.le_of_ble_eq_true rfl) (Nat.le_of_ble_eq_true rfl)
set_option maxHeartbeats 4000000 in
set_option maxRecDepth 100000 in
theorem S_X12_add (l : Launch) (a0 : Nat) (a1 : Int) (a2 : Int) (M : xv_M) (q : Int × xv_M) (h : D_X12_add a0 a1 a2 M = some q) : xv_Met l yX12_add wsX12_add rm_X12_add 0 0 false [xr a0, xi a1, xi a2] M (xv_qI false q) := by
  refine xv_enter (cc := cX12_add) (nL := 3) (ret := (some .int)) rfl (by decide +kernel) (Nat.le_of_ble_eq_true rfl) h ?_
  intro Y hY0 hl hR hnL hfl hret hnm0
  have hY : xv_ok Y cX12_add wsX12_add RX12 := hY0
  have hin12 : ∀ w ∈ u_ws RX12 TX12 18, w ∈ wsX12_add := fun _ h => List.mem_cons_of_mem _ (List.mem_append_right _ h)
  unfold D_X12_add
  refine xv_mk (L' := [some (xr a0), some (xi a1), some (xi a2)]) [true, true, true] rfl ?_
  refine xv_iload_n rfl rfl hY dX12_add_0 rfl ?_
  refine xv_iconst hY dX12_add_1 rfl ?_
  refine xv_sipush (by decide) hY dX12_add_2 rfl ?_
  refine xv_callSI (y := yX12_in) (ws := wsX12_in) (rm := rm_X12_in) (mc := 0) (ms := 0) (n := 3) (av := [xi a1, xi (0 : Int), xi (1000 : Int)]) hY dX12_add_5 rfl rfl (fun q hq => by rw [hfl]; exact S_X12_in Y.1.2.1 a1 (0 : Int) (1000 : Int) M q hq) (va_cwS 3 hY.2.2.2.2.1 gX12_add_X12_in rfl rfl rfl (by decide +kernel) ⟨(by rw [hR]; exact Nat.le_of_ble_eq_true rfl), (by rw [hR]; exact Nat.le_of_ble_eq_true rfl)⟩) rfl (Nat.le_of_ble_eq_true rfl) ⟨(by rw [hR]; exact Nat.le_of_ble_eq_true rfl), (by rw [hR]; exact Nat.le_of_ble_eq_true rfl)⟩ (fun z2 M1 => ?_)
  refine xv_if_eq (t := 22) hY dX12_add_8 (by decide) rfl ?_ ?_
  · refine xv_bipush (by decide) hY dX12_add_22 rfl ?_
    exact xv_ireti hY hfl dX12_add_24 hret (Nat.le_of_ble_eq_true rfl) (Nat.le_of_ble_eq_true rfl)
  · refine xv_iload_n rfl rfl hY dX12_add_11 rfl ?_
    refine xv_iload_n rfl rfl hY dX12_add_12 rfl ?_
    refine xv_sipush (by decide) hY dX12_add_13 rfl ?_
    refine xv_callSI (y := yX12_in) (ws := wsX12_in) (rm := rm_X12_in) (mc := 0) (ms := 0) (n := 3) (av := [xi a2, xi a1, xi (1000 : Int)]) hY dX12_add_16 rfl rfl (fun q hq => by rw [hfl]; exact S_X12_in Y.1.2.1 a2 a1 (1000 : Int) M1 q hq) (va_cwS 3 hY.2.2.2.2.1 gX12_add_X12_in rfl rfl rfl (by decide +kernel) ⟨(by rw [hR]; exact Nat.le_of_ble_eq_true rfl), (by rw [hR]; exact Nat.le_of_ble_eq_true rfl)⟩) rfl (Nat.le_of_ble_eq_true rfl) ⟨(by rw [hR]; exact Nat.le_of_ble_eq_true rfl), (by rw [hR]; exact Nat.le_of_ble_eq_true rfl)⟩ (fun z4 M3 => ?_)
    refine xv_if_ne (t := 25) hY dX12_add_19 (by decide) rfl ?_ ?_
    · refine xv_aload_n rfl rfl hY dX12_add_25 rfl ?_
      refine xv_getP (ci := 12) (j := 0) hY dX12_add_26 rfl rfl rfl (by decide) hin12 (by decide) rfl (List.mem_of_getElem? (i := 1) rfl) (fun v5 => ?_)
      refine xv_iconst hY dX12_add_29 rfl ?_
      refine xv_iald hY dX12_add_30 rfl (fun v6 => ?_)
      refine xv_bipush (by decide) hY dX12_add_31 rfl ?_
      refine xv_icmp_ne (t := 39) hY dX12_add_33 (by decide) rfl ?_ ?_
      · refine xv_aload_n rfl rfl hY dX12_add_39 rfl ?_
        refine xv_callVV (ci := 12) (y := yX12_record) (ws := wsX12_record) (rm := rm_X12_record) (mc := 0) (ms := 0) (n := 0) (av := []) hY dX12_add_40 rfl rfl rfl (by decide) (fun q hq => by rw [hfl]; exact S_X12_record Y.1.2.1 a0 M3 q hq) (cwV 0 hY.2.2.2.2.1 gX12_add_X12_record rfl rfl rfl (by decide +kernel) ⟨(by rw [hR]; exact Nat.le_of_ble_eq_true rfl), (by rw [hR]; exact Nat.le_of_ble_eq_true rfl)⟩) rfl (Nat.le_of_ble_eq_true rfl) ⟨(by rw [hR]; exact Nat.le_of_ble_eq_true rfl), (by rw [hR]; exact Nat.le_of_ble_eq_true rfl)⟩ (fun _ M7 => ?_)
        refine xv_aload_n rfl rfl hY dX12_add_43 rfl ?_
        refine xv_iload_n rfl rfl hY dX12_add_44 rfl ?_
        refine xv_iload_n rfl rfl hY dX12_add_45 rfl ?_
        refine xv_iload_n rfl rfl hY dX12_add_46 rfl ?_
        refine xv_iload_n rfl rfl hY dX12_add_47 rfl ?_
        refine xv_callVI (ci := 12) (y := yX12_adds) (ws := wsX12_adds) (rm := rm_X12_adds) (mc := 0) (ms := 0) (n := 4) (av := [xi a1, xi a2, xi a1, xi a2]) hY dX12_add_48 rfl rfl rfl (by decide) (fun q hq => by rw [hfl]; exact S_X12_adds Y.1.2.1 a0 a1 a2 a1 a2 M7 q hq) (cwV 4 hY.2.2.2.2.1 gX12_add_X12_adds rfl rfl rfl (by decide +kernel) ⟨(by rw [hR]; exact Nat.le_of_ble_eq_true rfl), (by rw [hR]; exact Nat.le_of_ble_eq_true rfl)⟩) rfl (Nat.le_of_ble_eq_true rfl) ⟨(by rw [hR]; exact Nat.le_of_ble_eq_true rfl), (by rw [hR]; exact Nat.le_of_ble_eq_true rfl)⟩ (fun z9 M8 => ?_)
        exact xv_ireti hY hfl dX12_add_51 hret (Nat.le_of_ble_eq_true rfl) (Nat.le_of_ble_eq_true rfl)
      · refine xv_bipush (by decide) hY dX12_add_36 rfl ?_
        exact xv_ireti hY hfl dX12_add_38 hret (Nat.le_of_ble_eq_true rfl) (Nat.le_of_ble_eq_true rfl)
    · refine xv_bipush (by decide) hY dX12_add_22 rfl ?_
      exact xv_ireti hY hfl dX12_add_24 hret (Nat.le_of_ble_eq_true rfl) (Nat.le_of_ble_eq_true rfl)
set_option maxHeartbeats 4000000 in
set_option maxRecDepth 100000 in
theorem S_X12_remove (l : Launch) (a0 : Nat) (a1 : Int) (M : xv_M) (q : Int × xv_M) (h : D_X12_remove a0 a1 M = some q) : xv_Met l yX12_remove wsX12_remove rm_X12_remove 0 0 false [xr a0, xi a1] M (xv_qI false q) := by
  refine xv_enter (cc := cX12_remove) (nL := 2) (ret := (some .int)) rfl (by decide +kernel) (Nat.le_of_ble_eq_true rfl) h ?_
  intro Y hY0 hl hR hnL hfl hret hnm0
  have hY : xv_ok Y cX12_remove wsX12_remove RX12 := hY0
  unfold D_X12_remove
  refine xv_mk (L' := [some (xr a0), some (xi a1)]) [true, true] rfl ?_
  refine xv_aload_n rfl rfl hY dX12_remove_0 rfl ?_
  refine xv_iload_n rfl rfl hY dX12_remove_1 rfl ?_
  refine xv_callVI (ci := 12) (y := yX12_noSpan) (ws := wsX12_noSpan) (rm := rm_X12_noSpan) (mc := 0) (ms := 0) (n := 1) (av := [xi a1]) hY dX12_remove_2 rfl rfl rfl (by decide) (fun q hq => by rw [hfl]; exact S_X12_noSpan Y.1.2.1 a0 a1 M q hq) (cwV 1 hY.2.2.2.2.1 gX12_remove_X12_noSpan rfl rfl rfl (by decide +kernel) ⟨(by rw [hR]; exact Nat.le_of_ble_eq_true rfl), (by rw [hR]; exact Nat.le_of_ble_eq_true rfl)⟩) rfl (Nat.le_of_ble_eq_true rfl) ⟨(by rw [hR]; exact Nat.le_of_ble_eq_true rfl), (by rw [hR]; exact Nat.le_of_ble_eq_true rfl)⟩ (fun z2 M1 => ?_)
  refine xv_if_eq (t := 10) hY dX12_remove_5 (by decide) rfl ?_ ?_
  · refine xv_aload_n rfl rfl hY dX12_remove_10 rfl ?_
    refine xv_callVV (ci := 12) (y := yX12_record) (ws := wsX12_record) (rm := rm_X12_record) (mc := 0) (ms := 0) (n := 0) (av := []) hY dX12_remove_11 rfl rfl rfl (by decide) (fun q hq => by rw [hfl]; exact S_X12_record Y.1.2.1 a0 M1 q hq) (cwV 0 hY.2.2.2.2.1 gX12_remove_X12_record rfl rfl rfl (by decide +kernel) ⟨(by rw [hR]; exact Nat.le_of_ble_eq_true rfl), (by rw [hR]; exact Nat.le_of_ble_eq_true rfl)⟩) rfl (Nat.le_of_ble_eq_true rfl) ⟨(by rw [hR]; exact Nat.le_of_ble_eq_true rfl), (by rw [hR]; exact Nat.le_of_ble_eq_true rfl)⟩ (fun _ M3 => ?_)
    refine xv_aload_n rfl rfl hY dX12_remove_14 rfl ?_
    refine xv_iload_n rfl rfl hY dX12_remove_15 rfl ?_
    refine xv_iconst hY dX12_remove_16 rfl ?_
    refine xv_iconst hY dX12_remove_17 rfl ?_
    refine xv_callVV (ci := 12) (y := yX12_puts) (ws := wsX12_puts) (rm := rm_X12_puts) (mc := 0) (ms := 0) (n := 3) (av := [xi a1, xi (4 : Int), xi (0 : Int)]) hY dX12_remove_18 rfl rfl rfl (by decide) (fun q hq => by rw [hfl]; exact S_X12_puts Y.1.2.1 a0 a1 (4 : Int) (0 : Int) M3 q hq) (cwV 3 hY.2.2.2.2.1 gX12_remove_X12_puts rfl rfl rfl (by decide +kernel) ⟨(by rw [hR]; exact Nat.le_of_ble_eq_true rfl), (by rw [hR]; exact Nat.le_of_ble_eq_true rfl)⟩) rfl (Nat.le_of_ble_eq_true rfl) ⟨(by rw [hR]; exact Nat.le_of_ble_eq_true rfl), (by rw [hR]; exact Nat.le_of_ble_eq_true rfl)⟩ (fun _ M4 => ?_)
    refine xv_aload_n rfl rfl hY dX12_remove_21 rfl ?_
    refine xv_callVI (ci := 12) (y := yX12_allChanges) (ws := wsX12_allChanges) (rm := rm_X12_allChanges) (mc := 0) (ms := 0) (n := 0) (av := []) hY dX12_remove_22 rfl rfl rfl (by decide) (fun q hq => by rw [hfl]; exact S_X12_allChanges Y.1.2.1 a0 M4 q hq) (cwV 0 hY.2.2.2.2.1 gX12_remove_X12_allChanges rfl rfl rfl (by decide +kernel) ⟨(by rw [hR]; exact Nat.le_of_ble_eq_true rfl), (by rw [hR]; exact Nat.le_of_ble_eq_true rfl)⟩) rfl (Nat.le_of_ble_eq_true rfl) ⟨(by rw [hR]; exact Nat.le_of_ble_eq_true rfl), (by rw [hR]; exact Nat.le_of_ble_eq_true rfl)⟩ (fun z6 M5 => ?_)
    exact xv_ireti hY hfl dX12_remove_25 hret (Nat.le_of_ble_eq_true rfl) (Nat.le_of_ble_eq_true rfl)
  · refine xv_iconst hY dX12_remove_8 rfl ?_
    exact xv_ireti hY hfl dX12_remove_9 hret (Nat.le_of_ble_eq_true rfl) (Nat.le_of_ble_eq_true rfl)
set_option maxHeartbeats 4000000 in
set_option maxRecDepth 100000 in
theorem S_X12_move (l : Launch) (a0 : Nat) (a1 : Int) (a2 : Int) (M : xv_M) (q : Int × xv_M) (h : D_X12_move a0 a1 a2 M = some q) : xv_Met l yX12_move wsX12_move rm_X12_move 0 0 false [xr a0, xi a1, xi a2] M (xv_qI false q) := by
  refine xv_enter (cc := cX12_move) (nL := 4) (ret := (some .int)) rfl (by decide +kernel) (Nat.le_of_ble_eq_true rfl) h ?_
  intro Y hY0 hl hR hnL hfl hret hnm0
  have hY : xv_ok Y cX12_move wsX12_move RX12 := hY0
  unfold D_X12_move
  refine xv_mk (L' := [some (xr a0), some (xi a1), some (xi a2), none]) [true, true, true, true] rfl ?_
  refine xv_aload_n rfl rfl hY dX12_move_0 rfl ?_
  refine xv_iload_n rfl rfl hY dX12_move_1 rfl ?_
  refine xv_callVI (ci := 12) (y := yX12_noSpan) (ws := wsX12_noSpan) (rm := rm_X12_noSpan) (mc := 0) (ms := 0) (n := 1) (av := [xi a1]) hY dX12_move_2 rfl rfl rfl (by decide) (fun q hq => by rw [hfl]; exact S_X12_noSpan Y.1.2.1 a0 a1 M q hq) (cwV 1 hY.2.2.2.2.1 gX12_move_X12_noSpan rfl rfl rfl (by decide +kernel) ⟨(by rw [hR]; exact Nat.le_of_ble_eq_true rfl), (by rw [hR]; exact Nat.le_of_ble_eq_true rfl)⟩) rfl (Nat.le_of_ble_eq_true rfl) ⟨(by rw [hR]; exact Nat.le_of_ble_eq_true rfl), (by rw [hR]; exact Nat.le_of_ble_eq_true rfl)⟩ (fun z2 M1 => ?_)
  refine xv_if_eq (t := 10) hY dX12_move_5 (by decide) rfl ?_ ?_
  · refine xv_iload_n rfl rfl hY dX12_move_10 rfl ?_
    refine xv_sipush (by decide) hY dX12_move_11 rfl ?_
    refine xv_sipush (by decide) hY dX12_move_14 rfl ?_
    refine xv_callSI (y := yX12_in) (ws := wsX12_in) (rm := rm_X12_in) (mc := 0) (ms := 0) (n := 3) (av := [xi a2, xi (-1000 : Int), xi (1000 : Int)]) hY dX12_move_17 rfl rfl (fun q hq => by rw [hfl]; exact S_X12_in Y.1.2.1 a2 (-1000 : Int) (1000 : Int) M1 q hq) (va_cwS 3 hY.2.2.2.2.1 gX12_move_X12_in rfl rfl rfl (by decide +kernel) ⟨(by rw [hR]; exact Nat.le_of_ble_eq_true rfl), (by rw [hR]; exact Nat.le_of_ble_eq_true rfl)⟩) rfl (Nat.le_of_ble_eq_true rfl) ⟨(by rw [hR]; exact Nat.le_of_ble_eq_true rfl), (by rw [hR]; exact Nat.le_of_ble_eq_true rfl)⟩ (fun z4 M3 => ?_)
    refine xv_if_eq (t := 27) hY dX12_move_20 (by decide) rfl ?_ ?_
    · refine xv_bipush (by decide) hY dX12_move_27 rfl ?_
      exact xv_ireti hY hfl dX12_move_29 hret (Nat.le_of_ble_eq_true rfl) (Nat.le_of_ble_eq_true rfl)
    · refine xv_iload_n rfl rfl hY dX12_move_23 rfl ?_
      refine xv_if_ne (t := 30) hY dX12_move_24 (by decide) rfl ?_ ?_
      · refine xv_aload_n rfl rfl hY dX12_move_30 rfl ?_
        refine xv_iload_n rfl rfl hY dX12_move_31 rfl ?_
        refine xv_iconst hY dX12_move_32 rfl ?_
        refine xv_callVI (ci := 12) (y := yX12_of) (ws := wsX12_of) (rm := rm_X12_of) (mc := 0) (ms := 0) (n := 2) (av := [xi a1, xi (0 : Int)]) hY dX12_move_33 rfl rfl rfl (by decide) (fun q hq => by rw [hfl]; exact S_X12_of Y.1.2.1 a0 a1 (0 : Int) M3 q hq) (cwV 2 hY.2.2.2.2.1 gX12_move_X12_of rfl rfl rfl (by decide +kernel) ⟨(by rw [hR]; exact Nat.le_of_ble_eq_true rfl), (by rw [hR]; exact Nat.le_of_ble_eq_true rfl)⟩) rfl (Nat.le_of_ble_eq_true rfl) ⟨(by rw [hR]; exact Nat.le_of_ble_eq_true rfl), (by rw [hR]; exact Nat.le_of_ble_eq_true rfl)⟩ (fun z6 M5 => ?_)
        refine xv_iload_n rfl rfl hY dX12_move_36 rfl ?_
        refine xv_iadd hY dX12_move_37 rfl ?_
        refine xv_if_lt (t := 55) hY dX12_move_38 (by decide) rfl ?_ ?_
        · refine xv_bipush (by decide) hY dX12_move_55 rfl ?_
          exact xv_ireti hY hfl dX12_move_57 hret (Nat.le_of_ble_eq_true rfl) (Nat.le_of_ble_eq_true rfl)
        · refine xv_aload_n rfl rfl hY dX12_move_41 rfl ?_
          refine xv_iload_n rfl rfl hY dX12_move_42 rfl ?_
          refine xv_iconst hY dX12_move_43 rfl ?_
          refine xv_callVI (ci := 12) (y := yX12_of) (ws := wsX12_of) (rm := rm_X12_of) (mc := 0) (ms := 0) (n := 2) (av := [xi a1, xi (1 : Int)]) hY dX12_move_44 rfl rfl rfl (by decide) (fun q hq => by rw [hfl]; exact S_X12_of Y.1.2.1 a0 a1 (1 : Int) M5 q hq) (cwV 2 hY.2.2.2.2.1 gX12_move_X12_of rfl rfl rfl (by decide +kernel) ⟨(by rw [hR]; exact Nat.le_of_ble_eq_true rfl), (by rw [hR]; exact Nat.le_of_ble_eq_true rfl)⟩) rfl (Nat.le_of_ble_eq_true rfl) ⟨(by rw [hR]; exact Nat.le_of_ble_eq_true rfl), (by rw [hR]; exact Nat.le_of_ble_eq_true rfl)⟩ (fun z8 M7 => ?_)
          refine xv_iload_n rfl rfl hY dX12_move_47 rfl ?_
          refine xv_iadd hY dX12_move_48 rfl ?_
          refine xv_sipush (by decide) hY dX12_move_49 rfl ?_
          refine xv_icmp_le (t := 58) hY dX12_move_52 (by decide) rfl ?_ ?_
          · refine xv_aload_n rfl rfl hY dX12_move_58 rfl ?_
            refine xv_callVV (ci := 12) (y := yX12_record) (ws := wsX12_record) (rm := rm_X12_record) (mc := 0) (ms := 0) (n := 0) (av := []) hY dX12_move_59 rfl rfl rfl (by decide) (fun q hq => by rw [hfl]; exact S_X12_record Y.1.2.1 a0 M7 q hq) (cwV 0 hY.2.2.2.2.1 gX12_move_X12_record rfl rfl rfl (by decide +kernel) ⟨(by rw [hR]; exact Nat.le_of_ble_eq_true rfl), (by rw [hR]; exact Nat.le_of_ble_eq_true rfl)⟩) rfl (Nat.le_of_ble_eq_true rfl) ⟨(by rw [hR]; exact Nat.le_of_ble_eq_true rfl), (by rw [hR]; exact Nat.le_of_ble_eq_true rfl)⟩ (fun _ M9 => ?_)
            refine xv_iconst hY dX12_move_62 rfl ?_
            refine xv_istore_n (L' := [some (xr a0), some (xi a1), some (xi a2), some (xi (0 : Int))]) hY dX12_move_63 rfl rfl (by rw [hnL]; decide) rfl rfl ?_
            refine xv_mk (L' := [some (xr a0), some (xi a1), some (xi a2), some (xi (0 : Int))]) [true, true, true, true] rfl ?_
            refine xv_loop (σ := Int × xv_M) (fun x10 => [some (xr a0), some (xi a1), some (xi a2), some (xi x10.1)]) (fun x10 => x10.2) (fun f11 hf11 x10 => ?_) xv_fuel ((0 : Int), M9)
            refine xv_iload_n rfl rfl hY dX12_move_64 rfl ?_
            refine xv_iconst hY dX12_move_65 rfl ?_
            refine xv_icmp_ge (t := 89) hY dX12_move_66 (by decide) rfl ?_ ?_
            · refine xv_aload_n rfl rfl hY dX12_move_89 rfl ?_
              refine xv_callVI (ci := 12) (y := yX12_allChanges) (ws := wsX12_allChanges) (rm := rm_X12_allChanges) (mc := 0) (ms := 0) (n := 0) (av := []) hY dX12_move_90 rfl rfl rfl (by decide) (fun q hq => by rw [hfl]; exact S_X12_allChanges Y.1.2.1 a0 x10.2 q hq) (cwV 0 hY.2.2.2.2.1 gX12_move_X12_allChanges rfl rfl rfl (by decide +kernel) ⟨(by rw [hR]; exact Nat.le_of_ble_eq_true rfl), (by rw [hR]; exact Nat.le_of_ble_eq_true rfl)⟩) rfl (Nat.le_of_ble_eq_true rfl) ⟨(by rw [hR]; exact Nat.le_of_ble_eq_true rfl), (by rw [hR]; exact Nat.le_of_ble_eq_true rfl)⟩ (fun z13 M12 => ?_)
              exact xv_ireti hY hfl dX12_move_93 hret (Nat.le_of_ble_eq_true rfl) (Nat.le_of_ble_eq_true rfl)
            · refine xv_aload_n rfl rfl hY dX12_move_69 rfl ?_
              refine xv_iload_n rfl rfl hY dX12_move_70 rfl ?_
              refine xv_iload_n rfl rfl hY dX12_move_71 rfl ?_
              refine xv_aload_n rfl rfl hY dX12_move_72 rfl ?_
              refine xv_iload_n rfl rfl hY dX12_move_73 rfl ?_
              refine xv_iload_n rfl rfl hY dX12_move_74 rfl ?_
              refine xv_callVI (ci := 12) (y := yX12_of) (ws := wsX12_of) (rm := rm_X12_of) (mc := 0) (ms := 0) (n := 2) (av := [xi a1, xi x10.1]) hY dX12_move_75 rfl rfl rfl (by decide) (fun q hq => by rw [hfl]; exact S_X12_of Y.1.2.1 a0 a1 x10.1 x10.2 q hq) (cwV 2 hY.2.2.2.2.1 gX12_move_X12_of rfl rfl rfl (by decide +kernel) ⟨(by rw [hR]; exact Nat.le_of_ble_eq_true rfl), (by rw [hR]; exact Nat.le_of_ble_eq_true rfl)⟩) rfl (Nat.le_of_ble_eq_true rfl) ⟨(by rw [hR]; exact Nat.le_of_ble_eq_true rfl), (by rw [hR]; exact Nat.le_of_ble_eq_true rfl)⟩ (fun z15 M14 => ?_)
              refine xv_iload_n rfl rfl hY dX12_move_78 rfl ?_
              refine xv_iadd hY dX12_move_79 rfl ?_
              refine xv_callVV (ci := 12) (y := yX12_puts) (ws := wsX12_puts) (rm := rm_X12_puts) (mc := 0) (ms := 0) (n := 3) (av := [xi a1, xi x10.1, xi (z15 + a2)]) hY dX12_move_80 rfl rfl rfl (by decide) (fun q hq => by rw [hfl]; exact S_X12_puts Y.1.2.1 a0 a1 x10.1 (z15 + a2) M14 q hq) (cwV 3 hY.2.2.2.2.1 gX12_move_X12_puts rfl rfl rfl (by decide +kernel) ⟨(by rw [hR]; exact Nat.le_of_ble_eq_true rfl), (by rw [hR]; exact Nat.le_of_ble_eq_true rfl)⟩) rfl (Nat.le_of_ble_eq_true rfl) ⟨(by rw [hR]; exact Nat.le_of_ble_eq_true rfl), (by rw [hR]; exact Nat.le_of_ble_eq_true rfl)⟩ (fun _ M16 => ?_)
              refine xv_iinc (L' := [some (xr a0), some (xi a1), some (xi a2), some (xi (x10.1 + 1))]) hY dX12_move_83 rfl (by rw [hnL]; decide) rfl rfl rfl ?_
              refine xv_goto (pc' := 64) hY dX12_move_86 (by decide) ?_
              exact xv_mk (L' := [some (xr a0), some (xi a1), some (xi a2), some (xi (x10.1 + 1))]) [true, true, true, true] rfl (hf11 ((x10.1 + 1), M16))
          · refine xv_bipush (by decide) hY dX12_move_55 rfl ?_
            exact xv_ireti hY hfl dX12_move_57 hret (Nat.le_of_ble_eq_true rfl) (Nat.le_of_ble_eq_true rfl)
      · refine xv_bipush (by decide) hY dX12_move_27 rfl ?_
        exact xv_ireti hY hfl dX12_move_29 hret (Nat.le_of_ble_eq_true rfl) (Nat.le_of_ble_eq_true rfl)
  · refine xv_iconst hY dX12_move_8 rfl ?_
    exact xv_ireti hY hfl dX12_move_9 hret (Nat.le_of_ble_eq_true rfl) (Nat.le_of_ble_eq_true rfl)
set_option maxHeartbeats 4000000 in
set_option maxRecDepth 100000 in
theorem S_X12_come (l : Launch) (a0 : Nat) (a1 : Int) (a2 : Int) (M : xv_M) (q : Int × xv_M) (h : D_X12_come a0 a1 a2 M = some q) : xv_Met l yX12_come wsX12_come rm_X12_come 0 0 false [xr a0, xi a1, xi a2] M (xv_qI false q) := by
  refine xv_enter (cc := cX12_come) (nL := 5) (ret := (some .int)) rfl (by decide +kernel) (Nat.le_of_ble_eq_true rfl) h ?_
  intro Y hY0 hl hR hnL hfl hret hnm0
  have hY : xv_ok Y cX12_come wsX12_come RX12 := hY0
  have hin12 : ∀ w ∈ u_ws RX12 TX12 18, w ∈ wsX12_come := fun _ h => List.mem_cons_of_mem _ (List.mem_append_right _ h)
  unfold D_X12_come
  refine xv_mk (L' := [some (xr a0), some (xi a1), some (xi a2), none, none]) [true, true, true, true, true] rfl ?_
  refine xv_iload_n rfl rfl hY dX12_come_0 rfl ?_
  refine xv_iconst hY dX12_come_1 rfl ?_
  refine xv_sipush (by decide) hY dX12_come_2 rfl ?_
  refine xv_callSI (y := yX12_in) (ws := wsX12_in) (rm := rm_X12_in) (mc := 0) (ms := 0) (n := 3) (av := [xi a1, xi (0 : Int), xi (1000 : Int)]) hY dX12_come_5 rfl rfl (fun q hq => by rw [hfl]; exact S_X12_in Y.1.2.1 a1 (0 : Int) (1000 : Int) M q hq) (va_cwS 3 hY.2.2.2.2.1 gX12_come_X12_in rfl rfl rfl (by decide +kernel) ⟨(by rw [hR]; exact Nat.le_of_ble_eq_true rfl), (by rw [hR]; exact Nat.le_of_ble_eq_true rfl)⟩) rfl (Nat.le_of_ble_eq_true rfl) ⟨(by rw [hR]; exact Nat.le_of_ble_eq_true rfl), (by rw [hR]; exact Nat.le_of_ble_eq_true rfl)⟩ (fun z2 M1 => ?_)
  refine xv_if_eq (t := 22) hY dX12_come_8 (by decide) rfl ?_ ?_
  · refine xv_bipush (by decide) hY dX12_come_22 rfl ?_
    exact xv_ireti hY hfl dX12_come_24 hret (Nat.le_of_ble_eq_true rfl) (Nat.le_of_ble_eq_true rfl)
  · refine xv_iload_n rfl rfl hY dX12_come_11 rfl ?_
    refine xv_bipush (by decide) hY dX12_come_12 rfl ?_
    refine xv_bipush (by decide) hY dX12_come_14 rfl ?_
    refine xv_callSI (y := yX12_in) (ws := wsX12_in) (rm := rm_X12_in) (mc := 0) (ms := 0) (n := 3) (av := [xi a2, xi (-50 : Int), xi (50 : Int)]) hY dX12_come_16 rfl rfl (fun q hq => by rw [hfl]; exact S_X12_in Y.1.2.1 a2 (-50 : Int) (50 : Int) M1 q hq) (va_cwS 3 hY.2.2.2.2.1 gX12_come_X12_in rfl rfl rfl (by decide +kernel) ⟨(by rw [hR]; exact Nat.le_of_ble_eq_true rfl), (by rw [hR]; exact Nat.le_of_ble_eq_true rfl)⟩) rfl (Nat.le_of_ble_eq_true rfl) ⟨(by rw [hR]; exact Nat.le_of_ble_eq_true rfl), (by rw [hR]; exact Nat.le_of_ble_eq_true rfl)⟩ (fun z4 M3 => ?_)
    refine xv_if_ne (t := 25) hY dX12_come_19 (by decide) rfl ?_ ?_
    · refine xv_aload_n rfl rfl hY dX12_come_25 rfl ?_
      refine xv_getP (ci := 12) (j := 0) hY dX12_come_26 rfl rfl rfl (by decide) hin12 (by decide) rfl (List.mem_of_getElem? (i := 1) rfl) (fun v5 => ?_)
      refine xv_iconst hY dX12_come_29 rfl ?_
      refine xv_iald hY dX12_come_30 rfl (fun v6 => ?_)
      refine xv_istore_n (L' := [some (xr a0), some (xi a1), some (xi a2), some (xi v6), none]) hY dX12_come_31 rfl rfl (by rw [hnL]; decide) rfl rfl ?_
      refine xv_iload_n rfl rfl hY dX12_come_32 rfl ?_
      refine xv_bipush (by decide) hY dX12_come_33 rfl ?_
      refine xv_icmp_ne (t := 41) hY dX12_come_35 (by decide) rfl ?_ ?_
      · refine xv_aload_n rfl rfl hY dX12_come_41 rfl ?_
        refine xv_callVV (ci := 12) (y := yX12_record) (ws := wsX12_record) (rm := rm_X12_record) (mc := 0) (ms := 0) (n := 0) (av := []) hY dX12_come_42 rfl rfl rfl (by decide) (fun q hq => by rw [hfl]; exact S_X12_record Y.1.2.1 a0 M3 q hq) (cwV 0 hY.2.2.2.2.1 gX12_come_X12_record rfl rfl rfl (by decide +kernel) ⟨(by rw [hR]; exact Nat.le_of_ble_eq_true rfl), (by rw [hR]; exact Nat.le_of_ble_eq_true rfl)⟩) rfl (Nat.le_of_ble_eq_true rfl) ⟨(by rw [hR]; exact Nat.le_of_ble_eq_true rfl), (by rw [hR]; exact Nat.le_of_ble_eq_true rfl)⟩ (fun _ M7 => ?_)
        refine xv_iconst hY dX12_come_45 rfl ?_
        refine xv_istore (L' := [some (xr a0), some (xi a1), some (xi a2), some (xi v6), some (xi (0 : Int))]) hY dX12_come_46 rfl (by rw [hnL]; decide) rfl rfl ?_
        refine xv_mk (L' := [some (xr a0), some (xi a1), some (xi a2), some (xi v6), some (xi (0 : Int))]) [true, true, true, true, true] rfl ?_
        refine xv_loop (σ := Int × xv_M) (fun x8 => [some (xr a0), some (xi a1), some (xi a2), some (xi v6), some (xi x8.1)]) (fun x8 => x8.2) (fun f9 hf9 x8 => ?_) xv_fuel ((0 : Int), M7)
        refine xv_iload rfl hY dX12_come_48 rfl ?_
        refine xv_bipush (by decide) hY dX12_come_50 rfl ?_
        refine xv_icmp_ge (t := 69) hY dX12_come_52 (by decide) rfl ?_ ?_
        · refine xv_aload_n rfl rfl hY dX12_come_69 rfl ?_
          refine xv_iload_n rfl rfl hY dX12_come_70 rfl ?_
          refine xv_iconst hY dX12_come_71 rfl ?_
          refine xv_iload_n rfl rfl hY dX12_come_72 rfl ?_
          refine xv_callVV (ci := 12) (y := yX12_gives) (ws := wsX12_gives) (rm := rm_X12_gives) (mc := 0) (ms := 0) (n := 3) (av := [xi v6, xi (0 : Int), xi a1]) hY dX12_come_73 rfl rfl rfl (by decide) (fun q hq => by rw [hfl]; exact S_X12_gives Y.1.2.1 a0 v6 (0 : Int) a1 x8.2 q hq) (cwV 3 hY.2.2.2.2.1 gX12_come_X12_gives rfl rfl rfl (by decide +kernel) ⟨(by rw [hR]; exact Nat.le_of_ble_eq_true rfl), (by rw [hR]; exact Nat.le_of_ble_eq_true rfl)⟩) rfl (Nat.le_of_ble_eq_true rfl) ⟨(by rw [hR]; exact Nat.le_of_ble_eq_true rfl), (by rw [hR]; exact Nat.le_of_ble_eq_true rfl)⟩ (fun _ M10 => ?_)
          refine xv_aload_n rfl rfl hY dX12_come_76 rfl ?_
          refine xv_iload_n rfl rfl hY dX12_come_77 rfl ?_
          refine xv_iconst hY dX12_come_78 rfl ?_
          refine xv_iload_n rfl rfl hY dX12_come_79 rfl ?_
          refine xv_callVV (ci := 12) (y := yX12_gives) (ws := wsX12_gives) (rm := rm_X12_gives) (mc := 0) (ms := 0) (n := 3) (av := [xi v6, xi (1 : Int), xi a2]) hY dX12_come_80 rfl rfl rfl (by decide) (fun q hq => by rw [hfl]; exact S_X12_gives Y.1.2.1 a0 v6 (1 : Int) a2 M10 q hq) (cwV 3 hY.2.2.2.2.1 gX12_come_X12_gives rfl rfl rfl (by decide +kernel) ⟨(by rw [hR]; exact Nat.le_of_ble_eq_true rfl), (by rw [hR]; exact Nat.le_of_ble_eq_true rfl)⟩) rfl (Nat.le_of_ble_eq_true rfl) ⟨(by rw [hR]; exact Nat.le_of_ble_eq_true rfl), (by rw [hR]; exact Nat.le_of_ble_eq_true rfl)⟩ (fun _ M11 => ?_)
          refine xv_iconst hY dX12_come_83 rfl ?_
          refine xv_istore (L' := [some (xr a0), some (xi a1), some (xi a2), some (xi v6), some (xi (0 : Int))]) hY dX12_come_84 rfl (by rw [hnL]; decide) rfl rfl ?_
          refine xv_mk (L' := [some (xr a0), none, none, some (xi v6), some (xi (0 : Int))]) [true, false, false, true, true] rfl ?_
          refine xv_loop (σ := Int × xv_M) (fun x12 => [some (xr a0), none, none, some (xi v6), some (xi x12.1)]) (fun x12 => x12.2) (fun f13 hf13 x12 => ?_) xv_fuel ((0 : Int), M11)
          refine xv_iload rfl hY dX12_come_86 rfl ?_
          refine xv_bipush (by decide) hY dX12_come_88 rfl ?_
          refine xv_icmp_ge (t := 116) hY dX12_come_90 (by decide) rfl ?_ ?_
          · refine xv_aload_n rfl rfl hY dX12_come_116 rfl ?_
            refine xv_getP (ci := 12) (j := 0) hY dX12_come_117 rfl rfl rfl (by decide) hin12 (by decide) rfl (List.mem_of_getElem? (i := 1) rfl) (fun v14 => ?_)
            refine xv_iconst hY dX12_come_120 rfl ?_
            refine xv_dup2 hY dX12_come_121 rfl ?_
            refine xv_iald hY dX12_come_122 rfl (fun v15 => ?_)
            refine xv_iconst hY dX12_come_123 rfl ?_
            refine xv_iadd hY dX12_come_124 rfl ?_
            refine xv_iast hY hfl dX12_come_125 rfl (fun M16 => ?_)
            refine xv_aload_n rfl rfl hY dX12_come_126 rfl ?_
            refine xv_iload_n rfl rfl hY dX12_come_127 rfl ?_
            refine xv_callVI (ci := 12) (y := yX12_changes) (ws := wsX12_changes) (rm := rm_X12_changes) (mc := 0) (ms := 0) (n := 1) (av := [xi v6]) hY dX12_come_128 rfl rfl rfl (by decide) (fun q hq => by rw [hfl]; exact S_X12_changes Y.1.2.1 a0 v6 M16 q hq) (cwV 1 hY.2.2.2.2.1 gX12_come_X12_changes rfl rfl rfl (by decide +kernel) ⟨(by rw [hR]; exact Nat.le_of_ble_eq_true rfl), (by rw [hR]; exact Nat.le_of_ble_eq_true rfl)⟩) rfl (Nat.le_of_ble_eq_true rfl) ⟨(by rw [hR]; exact Nat.le_of_ble_eq_true rfl), (by rw [hR]; exact Nat.le_of_ble_eq_true rfl)⟩ (fun z18 M17 => ?_)
            refine xv_pop hY dX12_come_131 rfl ?_
            refine xv_iload_n rfl rfl hY dX12_come_132 rfl ?_
            exact xv_ireti hY hfl dX12_come_133 hret (Nat.le_of_ble_eq_true rfl) (Nat.le_of_ble_eq_true rfl)
          · refine xv_aload_n rfl rfl hY dX12_come_93 rfl ?_
            refine xv_getP (ci := 12) (j := 0) hY dX12_come_94 rfl rfl rfl (by decide) hin12 (by decide) rfl (List.mem_of_getElem? (i := 1) rfl) (fun v19 => ?_)
            refine xv_sipush (by decide) hY dX12_come_97 rfl ?_
            refine xv_bipush (by decide) hY dX12_come_100 rfl ?_
            refine xv_iload_n rfl rfl hY dX12_come_102 rfl ?_
            refine xv_imul hY dX12_come_103 rfl ?_
            refine xv_iadd hY dX12_come_104 rfl ?_
            refine xv_iload rfl hY dX12_come_105 rfl ?_
            refine xv_iadd hY dX12_come_107 rfl ?_
            refine xv_iconst hY dX12_come_108 rfl ?_
            refine xv_iast hY hfl dX12_come_109 rfl (fun M20 => ?_)
            refine xv_iinc (L' := [some (xr a0), none, none, some (xi v6), some (xi (x12.1 + 1))]) hY dX12_come_110 rfl (by rw [hnL]; decide) rfl rfl rfl ?_
            refine xv_goto (pc' := 86) hY dX12_come_113 (by decide) ?_
            exact xv_mk (L' := [some (xr a0), none, none, some (xi v6), some (xi (x12.1 + 1))]) [true, false, false, true, true] rfl (hf13 ((x12.1 + 1), M20))
        · refine xv_aload_n rfl rfl hY dX12_come_55 rfl ?_
          refine xv_iload_n rfl rfl hY dX12_come_56 rfl ?_
          refine xv_iload rfl hY dX12_come_57 rfl ?_
          refine xv_iconst hY dX12_come_59 rfl ?_
          refine xv_callVV (ci := 12) (y := yX12_gives) (ws := wsX12_gives) (rm := rm_X12_gives) (mc := 0) (ms := 0) (n := 3) (av := [xi v6, xi x8.1, xi (0 : Int)]) hY dX12_come_60 rfl rfl rfl (by decide) (fun q hq => by rw [hfl]; exact S_X12_gives Y.1.2.1 a0 v6 x8.1 (0 : Int) x8.2 q hq) (cwV 3 hY.2.2.2.2.1 gX12_come_X12_gives rfl rfl rfl (by decide +kernel) ⟨(by rw [hR]; exact Nat.le_of_ble_eq_true rfl), (by rw [hR]; exact Nat.le_of_ble_eq_true rfl)⟩) rfl (Nat.le_of_ble_eq_true rfl) ⟨(by rw [hR]; exact Nat.le_of_ble_eq_true rfl), (by rw [hR]; exact Nat.le_of_ble_eq_true rfl)⟩ (fun _ M21 => ?_)
          refine xv_iinc (L' := [some (xr a0), some (xi a1), some (xi a2), some (xi v6), some (xi (x8.1 + 1))]) hY dX12_come_63 rfl (by rw [hnL]; decide) rfl rfl rfl ?_
          refine xv_goto (pc' := 48) hY dX12_come_66 (by decide) ?_
          exact xv_mk (L' := [some (xr a0), some (xi a1), some (xi a2), some (xi v6), some (xi (x8.1 + 1))]) [true, true, true, true, true] rfl (hf9 ((x8.1 + 1), M21))
      · refine xv_bipush (by decide) hY dX12_come_38 rfl ?_
        exact xv_ireti hY hfl dX12_come_40 hret (Nat.le_of_ble_eq_true rfl) (Nat.le_of_ble_eq_true rfl)
    · refine xv_bipush (by decide) hY dX12_come_22 rfl ?_
      exact xv_ireti hY hfl dX12_come_24 hret (Nat.le_of_ble_eq_true rfl) (Nat.le_of_ble_eq_true rfl)
set_option maxHeartbeats 4000000 in
set_option maxRecDepth 100000 in
theorem S_X12_put (l : Launch) (a0 : Nat) (a1 : Int) (a2 : Int) (M : xv_M) (q : Int × xv_M) (h : D_X12_put a0 a1 a2 M = some q) : xv_Met l yX12_put wsX12_put rm_X12_put 0 0 false [xr a0, xi a1, xi a2] M (xv_qI false q) := by
  refine xv_enter (cc := cX12_put) (nL := 3) (ret := (some .int)) rfl (by decide +kernel) (Nat.le_of_ble_eq_true rfl) h ?_
  intro Y hY0 hl hR hnL hfl hret hnm0
  have hY : xv_ok Y cX12_put wsX12_put RX12 := hY0
  unfold D_X12_put
  refine xv_mk (L' := [some (xr a0), some (xi a1), some (xi a2)]) [true, true, true] rfl ?_
  refine xv_aload_n rfl rfl hY dX12_put_0 rfl ?_
  refine xv_iload_n rfl rfl hY dX12_put_1 rfl ?_
  refine xv_callVI (ci := 12) (y := yX12_noWalker) (ws := wsX12_noWalker) (rm := rm_X12_noWalker) (mc := 0) (ms := 0) (n := 1) (av := [xi a1]) hY dX12_put_2 rfl rfl rfl (by decide) (fun q hq => by rw [hfl]; exact S_X12_noWalker Y.1.2.1 a0 a1 M q hq) (cwV 1 hY.2.2.2.2.1 gX12_put_X12_noWalker rfl rfl rfl (by decide +kernel) ⟨(by rw [hR]; exact Nat.le_of_ble_eq_true rfl), (by rw [hR]; exact Nat.le_of_ble_eq_true rfl)⟩) rfl (Nat.le_of_ble_eq_true rfl) ⟨(by rw [hR]; exact Nat.le_of_ble_eq_true rfl), (by rw [hR]; exact Nat.le_of_ble_eq_true rfl)⟩ (fun z2 M1 => ?_)
  refine xv_if_eq (t := 10) hY dX12_put_5 (by decide) rfl ?_ ?_
  · refine xv_iload_n rfl rfl hY dX12_put_10 rfl ?_
    refine xv_iconst hY dX12_put_11 rfl ?_
    refine xv_sipush (by decide) hY dX12_put_12 rfl ?_
    refine xv_callSI (y := yX12_in) (ws := wsX12_in) (rm := rm_X12_in) (mc := 0) (ms := 0) (n := 3) (av := [xi a2, xi (0 : Int), xi (1000 : Int)]) hY dX12_put_15 rfl rfl (fun q hq => by rw [hfl]; exact S_X12_in Y.1.2.1 a2 (0 : Int) (1000 : Int) M1 q hq) (va_cwS 3 hY.2.2.2.2.1 gX12_put_X12_in rfl rfl rfl (by decide +kernel) ⟨(by rw [hR]; exact Nat.le_of_ble_eq_true rfl), (by rw [hR]; exact Nat.le_of_ble_eq_true rfl)⟩) rfl (Nat.le_of_ble_eq_true rfl) ⟨(by rw [hR]; exact Nat.le_of_ble_eq_true rfl), (by rw [hR]; exact Nat.le_of_ble_eq_true rfl)⟩ (fun z4 M3 => ?_)
    refine xv_if_ne (t := 24) hY dX12_put_18 (by decide) rfl ?_ ?_
    · refine xv_aload_n rfl rfl hY dX12_put_24 rfl ?_
      refine xv_iload_n rfl rfl hY dX12_put_25 rfl ?_
      refine xv_iconst hY dX12_put_26 rfl ?_
      refine xv_callVI (ci := 12) (y := yX12_its) (ws := wsX12_its) (rm := rm_X12_its) (mc := 0) (ms := 0) (n := 2) (av := [xi a1, xi (0 : Int)]) hY dX12_put_27 rfl rfl rfl (by decide) (fun q hq => by rw [hfl]; exact S_X12_its Y.1.2.1 a0 a1 (0 : Int) M3 q hq) (cwV 2 hY.2.2.2.2.1 gX12_put_X12_its rfl rfl rfl (by decide +kernel) ⟨(by rw [hR]; exact Nat.le_of_ble_eq_true rfl), (by rw [hR]; exact Nat.le_of_ble_eq_true rfl)⟩) rfl (Nat.le_of_ble_eq_true rfl) ⟨(by rw [hR]; exact Nat.le_of_ble_eq_true rfl), (by rw [hR]; exact Nat.le_of_ble_eq_true rfl)⟩ (fun z6 M5 => ?_)
      refine xv_iload_n rfl rfl hY dX12_put_30 rfl ?_
      refine xv_icmp_ne (t := 37) hY dX12_put_31 (by decide) rfl ?_ ?_
      · refine xv_aload_n rfl rfl hY dX12_put_37 rfl ?_
        refine xv_callVV (ci := 12) (y := yX12_record) (ws := wsX12_record) (rm := rm_X12_record) (mc := 0) (ms := 0) (n := 0) (av := []) hY dX12_put_38 rfl rfl rfl (by decide) (fun q hq => by rw [hfl]; exact S_X12_record Y.1.2.1 a0 M5 q hq) (cwV 0 hY.2.2.2.2.1 gX12_put_X12_record rfl rfl rfl (by decide +kernel) ⟨(by rw [hR]; exact Nat.le_of_ble_eq_true rfl), (by rw [hR]; exact Nat.le_of_ble_eq_true rfl)⟩) rfl (Nat.le_of_ble_eq_true rfl) ⟨(by rw [hR]; exact Nat.le_of_ble_eq_true rfl), (by rw [hR]; exact Nat.le_of_ble_eq_true rfl)⟩ (fun _ M7 => ?_)
        refine xv_aload_n rfl rfl hY dX12_put_41 rfl ?_
        refine xv_iload_n rfl rfl hY dX12_put_42 rfl ?_
        refine xv_iconst hY dX12_put_43 rfl ?_
        refine xv_iload_n rfl rfl hY dX12_put_44 rfl ?_
        refine xv_callVV (ci := 12) (y := yX12_gives) (ws := wsX12_gives) (rm := rm_X12_gives) (mc := 0) (ms := 0) (n := 3) (av := [xi a1, xi (0 : Int), xi a2]) hY dX12_put_45 rfl rfl rfl (by decide) (fun q hq => by rw [hfl]; exact S_X12_gives Y.1.2.1 a0 a1 (0 : Int) a2 M7 q hq) (cwV 3 hY.2.2.2.2.1 gX12_put_X12_gives rfl rfl rfl (by decide +kernel) ⟨(by rw [hR]; exact Nat.le_of_ble_eq_true rfl), (by rw [hR]; exact Nat.le_of_ble_eq_true rfl)⟩) rfl (Nat.le_of_ble_eq_true rfl) ⟨(by rw [hR]; exact Nat.le_of_ble_eq_true rfl), (by rw [hR]; exact Nat.le_of_ble_eq_true rfl)⟩ (fun _ M8 => ?_)
        refine xv_aload_n rfl rfl hY dX12_put_48 rfl ?_
        refine xv_iload_n rfl rfl hY dX12_put_49 rfl ?_
        refine xv_callVI (ci := 12) (y := yX12_changes) (ws := wsX12_changes) (rm := rm_X12_changes) (mc := 0) (ms := 0) (n := 1) (av := [xi a1]) hY dX12_put_50 rfl rfl rfl (by decide) (fun q hq => by rw [hfl]; exact S_X12_changes Y.1.2.1 a0 a1 M8 q hq) (cwV 1 hY.2.2.2.2.1 gX12_put_X12_changes rfl rfl rfl (by decide +kernel) ⟨(by rw [hR]; exact Nat.le_of_ble_eq_true rfl), (by rw [hR]; exact Nat.le_of_ble_eq_true rfl)⟩) rfl (Nat.le_of_ble_eq_true rfl) ⟨(by rw [hR]; exact Nat.le_of_ble_eq_true rfl), (by rw [hR]; exact Nat.le_of_ble_eq_true rfl)⟩ (fun z10 M9 => ?_)
        exact xv_ireti hY hfl dX12_put_53 hret (Nat.le_of_ble_eq_true rfl) (Nat.le_of_ble_eq_true rfl)
      · refine xv_bipush (by decide) hY dX12_put_34 rfl ?_
        exact xv_ireti hY hfl dX12_put_36 hret (Nat.le_of_ble_eq_true rfl) (Nat.le_of_ble_eq_true rfl)
    · refine xv_bipush (by decide) hY dX12_put_21 rfl ?_
      exact xv_ireti hY hfl dX12_put_23 hret (Nat.le_of_ble_eq_true rfl) (Nat.le_of_ble_eq_true rfl)
  · refine xv_iconst hY dX12_put_8 rfl ?_
    exact xv_ireti hY hfl dX12_put_9 hret (Nat.le_of_ble_eq_true rfl) (Nat.le_of_ble_eq_true rfl)
set_option maxHeartbeats 4000000 in
set_option maxRecDepth 100000 in
theorem S_X12_speed (l : Launch) (a0 : Nat) (a1 : Int) (a2 : Int) (M : xv_M) (q : Int × xv_M) (h : D_X12_speed a0 a1 a2 M = some q) : xv_Met l yX12_speed wsX12_speed rm_X12_speed 0 0 false [xr a0, xi a1, xi a2] M (xv_qI false q) := by
  refine xv_enter (cc := cX12_speed) (nL := 4) (ret := (some .int)) rfl (by decide +kernel) (Nat.le_of_ble_eq_true rfl) h ?_
  intro Y hY0 hl hR hnL hfl hret hnm0
  have hY : xv_ok Y cX12_speed wsX12_speed RX12 := hY0
  unfold D_X12_speed
  refine xv_mk (L' := [some (xr a0), some (xi a1), some (xi a2), none]) [true, true, true, true] rfl ?_
  refine xv_aload_n rfl rfl hY dX12_speed_0 rfl ?_
  refine xv_iload_n rfl rfl hY dX12_speed_1 rfl ?_
  refine xv_callVI (ci := 12) (y := yX12_noWalker) (ws := wsX12_noWalker) (rm := rm_X12_noWalker) (mc := 0) (ms := 0) (n := 1) (av := [xi a1]) hY dX12_speed_2 rfl rfl rfl (by decide) (fun q hq => by rw [hfl]; exact S_X12_noWalker Y.1.2.1 a0 a1 M q hq) (cwV 1 hY.2.2.2.2.1 gX12_speed_X12_noWalker rfl rfl rfl (by decide +kernel) ⟨(by rw [hR]; exact Nat.le_of_ble_eq_true rfl), (by rw [hR]; exact Nat.le_of_ble_eq_true rfl)⟩) rfl (Nat.le_of_ble_eq_true rfl) ⟨(by rw [hR]; exact Nat.le_of_ble_eq_true rfl), (by rw [hR]; exact Nat.le_of_ble_eq_true rfl)⟩ (fun z2 M1 => ?_)
  refine xv_if_eq (t := 10) hY dX12_speed_5 (by decide) rfl ?_ ?_
  · refine xv_iload_n rfl rfl hY dX12_speed_10 rfl ?_
    refine xv_bipush (by decide) hY dX12_speed_11 rfl ?_
    refine xv_bipush (by decide) hY dX12_speed_13 rfl ?_
    refine xv_callSI (y := yX12_in) (ws := wsX12_in) (rm := rm_X12_in) (mc := 0) (ms := 0) (n := 3) (av := [xi a2, xi (-50 : Int), xi (50 : Int)]) hY dX12_speed_15 rfl rfl (fun q hq => by rw [hfl]; exact S_X12_in Y.1.2.1 a2 (-50 : Int) (50 : Int) M1 q hq) (va_cwS 3 hY.2.2.2.2.1 gX12_speed_X12_in rfl rfl rfl (by decide +kernel) ⟨(by rw [hR]; exact Nat.le_of_ble_eq_true rfl), (by rw [hR]; exact Nat.le_of_ble_eq_true rfl)⟩) rfl (Nat.le_of_ble_eq_true rfl) ⟨(by rw [hR]; exact Nat.le_of_ble_eq_true rfl), (by rw [hR]; exact Nat.le_of_ble_eq_true rfl)⟩ (fun z4 M3 => ?_)
    refine xv_if_ne (t := 24) hY dX12_speed_18 (by decide) rfl ?_ ?_
    · refine xv_aload_n rfl rfl hY dX12_speed_24 rfl ?_
      refine xv_iload_n rfl rfl hY dX12_speed_25 rfl ?_
      refine xv_iconst hY dX12_speed_26 rfl ?_
      refine xv_callVI (ci := 12) (y := yX12_its) (ws := wsX12_its) (rm := rm_X12_its) (mc := 0) (ms := 0) (n := 2) (av := [xi a1, xi (1 : Int)]) hY dX12_speed_27 rfl rfl rfl (by decide) (fun q hq => by rw [hfl]; exact S_X12_its Y.1.2.1 a0 a1 (1 : Int) M3 q hq) (cwV 2 hY.2.2.2.2.1 gX12_speed_X12_its rfl rfl rfl (by decide +kernel) ⟨(by rw [hR]; exact Nat.le_of_ble_eq_true rfl), (by rw [hR]; exact Nat.le_of_ble_eq_true rfl)⟩) rfl (Nat.le_of_ble_eq_true rfl) ⟨(by rw [hR]; exact Nat.le_of_ble_eq_true rfl), (by rw [hR]; exact Nat.le_of_ble_eq_true rfl)⟩ (fun z6 M5 => ?_)
      refine xv_istore_n (L' := [some (xr a0), some (xi a1), some (xi a2), some (xi z6)]) hY dX12_speed_30 rfl rfl (by rw [hnL]; decide) rfl rfl ?_
      refine xv_iload_n rfl rfl hY dX12_speed_31 rfl ?_
      refine xv_iload_n rfl rfl hY dX12_speed_32 rfl ?_
      refine xv_icmp_ne (t := 39) hY dX12_speed_33 (by decide) rfl ?_ ?_
      · refine xv_aload_n rfl rfl hY dX12_speed_39 rfl ?_
        refine xv_callVV (ci := 12) (y := yX12_record) (ws := wsX12_record) (rm := rm_X12_record) (mc := 0) (ms := 0) (n := 0) (av := []) hY dX12_speed_40 rfl rfl rfl (by decide) (fun q hq => by rw [hfl]; exact S_X12_record Y.1.2.1 a0 M5 q hq) (cwV 0 hY.2.2.2.2.1 gX12_speed_X12_record rfl rfl rfl (by decide +kernel) ⟨(by rw [hR]; exact Nat.le_of_ble_eq_true rfl), (by rw [hR]; exact Nat.le_of_ble_eq_true rfl)⟩) rfl (Nat.le_of_ble_eq_true rfl) ⟨(by rw [hR]; exact Nat.le_of_ble_eq_true rfl), (by rw [hR]; exact Nat.le_of_ble_eq_true rfl)⟩ (fun _ M7 => ?_)
        refine xv_aload_n rfl rfl hY dX12_speed_43 rfl ?_
        refine xv_iload_n rfl rfl hY dX12_speed_44 rfl ?_
        refine xv_iconst hY dX12_speed_45 rfl ?_
        refine xv_iload_n rfl rfl hY dX12_speed_46 rfl ?_
        refine xv_callVV (ci := 12) (y := yX12_gives) (ws := wsX12_gives) (rm := rm_X12_gives) (mc := 0) (ms := 0) (n := 3) (av := [xi a1, xi (1 : Int), xi a2]) hY dX12_speed_47 rfl rfl rfl (by decide) (fun q hq => by rw [hfl]; exact S_X12_gives Y.1.2.1 a0 a1 (1 : Int) a2 M7 q hq) (cwV 3 hY.2.2.2.2.1 gX12_speed_X12_gives rfl rfl rfl (by decide +kernel) ⟨(by rw [hR]; exact Nat.le_of_ble_eq_true rfl), (by rw [hR]; exact Nat.le_of_ble_eq_true rfl)⟩) rfl (Nat.le_of_ble_eq_true rfl) ⟨(by rw [hR]; exact Nat.le_of_ble_eq_true rfl), (by rw [hR]; exact Nat.le_of_ble_eq_true rfl)⟩ (fun _ M8 => ?_)
        refine xv_sipush (by decide) hY dX12_speed_50 rfl ?_
        refine xv_iload_n rfl rfl hY dX12_speed_53 rfl ?_
        refine xv_iadd hY dX12_speed_54 rfl ?_
        exact xv_ireti hY hfl dX12_speed_55 hret (Nat.le_of_ble_eq_true rfl) (Nat.le_of_ble_eq_true rfl)
      · refine xv_bipush (by decide) hY dX12_speed_36 rfl ?_
        exact xv_ireti hY hfl dX12_speed_38 hret (Nat.le_of_ble_eq_true rfl) (Nat.le_of_ble_eq_true rfl)
    · refine xv_bipush (by decide) hY dX12_speed_21 rfl ?_
      exact xv_ireti hY hfl dX12_speed_23 hret (Nat.le_of_ble_eq_true rfl) (Nat.le_of_ble_eq_true rfl)
  · refine xv_iconst hY dX12_speed_8 rfl ?_
    exact xv_ireti hY hfl dX12_speed_9 hret (Nat.le_of_ble_eq_true rfl) (Nat.le_of_ble_eq_true rfl)
set_option maxHeartbeats 4000000 in
set_option maxRecDepth 100000 in
theorem S_X12_turned (l : Launch) (a0 : Int) (M : xv_M) (q : Int × xv_M) (h : D_X12_turned a0 M = some q) : xv_Met l yX12_turned wsX12_turned rm_X12_turned 0 0 false [xi a0] M (xv_qI false q) := by
  refine xv_enter (cc := cX12_turned) (nL := 1) (ret := (some .int)) rfl (by decide +kernel) (Nat.le_of_ble_eq_true rfl) h ?_
  intro Y hY0 hl hR hnL hfl hret hnm0
  have hY : xv_ok Y cX12_turned wsX12_turned RX12 := hY0
  unfold D_X12_turned
  refine xv_mk (L' := [some (xi a0)]) [true] rfl ?_
  refine xv_iload_n rfl rfl hY dX12_turned_0 rfl ?_
  refine xv_if_ge (t := 9) hY dX12_turned_1 (by decide) rfl ?_ ?_
  · refine xv_iload_n rfl rfl hY dX12_turned_9 rfl ?_
    refine xv_sipush (by decide) hY dX12_turned_10 rfl ?_
    refine xv_icmp_le (t := 24) hY dX12_turned_13 (by decide) rfl ?_ ?_
    · refine xv_iload_n rfl rfl hY dX12_turned_24 rfl ?_
      exact xv_ireti hY hfl dX12_turned_25 hret (Nat.le_of_ble_eq_true rfl) (Nat.le_of_ble_eq_true rfl)
    · refine xv_sipush (by decide) hY dX12_turned_16 rfl ?_
      refine xv_iload_n rfl rfl hY dX12_turned_19 rfl ?_
      refine xv_isub hY dX12_turned_20 rfl ?_
      refine xv_goto (pc' := 25) hY dX12_turned_21 (by decide) ?_
      exact xv_ireti hY hfl dX12_turned_25 hret (Nat.le_of_ble_eq_true rfl) (Nat.le_of_ble_eq_true rfl)
  · refine xv_iload_n rfl rfl hY dX12_turned_4 rfl ?_
    refine xv_ineg hY dX12_turned_5 rfl ?_
    refine xv_goto (pc' := 25) hY dX12_turned_6 (by decide) ?_
    exact xv_ireti hY hfl dX12_turned_25 hret (Nat.le_of_ble_eq_true rfl) (Nat.le_of_ble_eq_true rfl)
set_option maxHeartbeats 4000000 in
set_option maxRecDepth 100000 in
theorem S_X12_goes (l : Launch) (a0 : Nat) (a1 : Int) (M : xv_M) (q : Int × xv_M) (h : D_X12_goes a0 a1 M = some q) : xv_Met l yX12_goes wsX12_goes rm_X12_goes 0 0 false [xr a0, xi a1] M (xv_qI false q) := by
  refine xv_enter (cc := cX12_goes) (nL := 5) (ret := (some .int)) rfl (by decide +kernel) (Nat.le_of_ble_eq_true rfl) h ?_
  intro Y hY0 hl hR hnL hfl hret hnm0
  have hY : xv_ok Y cX12_goes wsX12_goes RX12 := hY0
  unfold D_X12_goes
  refine xv_mk (L' := [some (xr a0), some (xi a1), none, none, none]) [true, true, true, true, true] rfl ?_
  refine xv_aload_n rfl rfl hY dX12_goes_0 rfl ?_
  refine xv_iload_n rfl rfl hY dX12_goes_1 rfl ?_
  refine xv_iconst hY dX12_goes_2 rfl ?_
  refine xv_callVI (ci := 12) (y := yX12_its) (ws := wsX12_its) (rm := rm_X12_its) (mc := 0) (ms := 0) (n := 2) (av := [xi a1, xi (1 : Int)]) hY dX12_goes_3 rfl rfl rfl (by decide) (fun q hq => by rw [hfl]; exact S_X12_its Y.1.2.1 a0 a1 (1 : Int) M q hq) (cwV 2 hY.2.2.2.2.1 gX12_goes_X12_its rfl rfl rfl (by decide +kernel) ⟨(by rw [hR]; exact Nat.le_of_ble_eq_true rfl), (by rw [hR]; exact Nat.le_of_ble_eq_true rfl)⟩) rfl (Nat.le_of_ble_eq_true rfl) ⟨(by rw [hR]; exact Nat.le_of_ble_eq_true rfl), (by rw [hR]; exact Nat.le_of_ble_eq_true rfl)⟩ (fun z2 M1 => ?_)
  refine xv_istore_n (L' := [some (xr a0), some (xi a1), some (xi z2), none, none]) hY dX12_goes_6 rfl rfl (by rw [hnL]; decide) rfl rfl ?_
  refine xv_aload_n rfl rfl hY dX12_goes_7 rfl ?_
  refine xv_iload_n rfl rfl hY dX12_goes_8 rfl ?_
  refine xv_iconst hY dX12_goes_9 rfl ?_
  refine xv_callVI (ci := 12) (y := yX12_its) (ws := wsX12_its) (rm := rm_X12_its) (mc := 0) (ms := 0) (n := 2) (av := [xi a1, xi (0 : Int)]) hY dX12_goes_10 rfl rfl rfl (by decide) (fun q hq => by rw [hfl]; exact S_X12_its Y.1.2.1 a0 a1 (0 : Int) M1 q hq) (cwV 2 hY.2.2.2.2.1 gX12_goes_X12_its rfl rfl rfl (by decide +kernel) ⟨(by rw [hR]; exact Nat.le_of_ble_eq_true rfl), (by rw [hR]; exact Nat.le_of_ble_eq_true rfl)⟩) rfl (Nat.le_of_ble_eq_true rfl) ⟨(by rw [hR]; exact Nat.le_of_ble_eq_true rfl), (by rw [hR]; exact Nat.le_of_ble_eq_true rfl)⟩ (fun z4 M3 => ?_)
  refine xv_iload_n rfl rfl hY dX12_goes_13 rfl ?_
  refine xv_iadd hY dX12_goes_14 rfl ?_
  refine xv_istore_n (L' := [some (xr a0), some (xi a1), some (xi z2), some (xi (z4 + z2)), none]) hY dX12_goes_15 rfl rfl (by rw [hnL]; decide) rfl rfl ?_
  refine xv_iload_n rfl rfl hY dX12_goes_16 rfl ?_
  refine xv_callSI (y := yX12_turned) (ws := wsX12_turned) (rm := rm_X12_turned) (mc := 0) (ms := 0) (n := 1) (av := [xi (z4 + z2)]) hY dX12_goes_17 rfl rfl (fun q hq => by rw [hfl]; exact S_X12_turned Y.1.2.1 (z4 + z2) M3 q hq) (va_cwS 1 hY.2.2.2.2.1 gX12_goes_X12_turned rfl rfl rfl (by decide +kernel) ⟨(by rw [hR]; exact Nat.le_of_ble_eq_true rfl), (by rw [hR]; exact Nat.le_of_ble_eq_true rfl)⟩) rfl (Nat.le_of_ble_eq_true rfl) ⟨(by rw [hR]; exact Nat.le_of_ble_eq_true rfl), (by rw [hR]; exact Nat.le_of_ble_eq_true rfl)⟩ (fun z6 M5 => ?_)
  refine xv_istore (L' := [some (xr a0), some (xi a1), some (xi z2), some (xi (z4 + z2)), some (xi z6)]) hY dX12_goes_20 rfl (by rw [hnL]; decide) rfl rfl ?_
  refine xv_aload_n rfl rfl hY dX12_goes_22 rfl ?_
  refine xv_iload_n rfl rfl hY dX12_goes_23 rfl ?_
  refine xv_iconst hY dX12_goes_24 rfl ?_
  refine xv_iload rfl hY dX12_goes_25 rfl ?_
  refine xv_callVV (ci := 12) (y := yX12_gives) (ws := wsX12_gives) (rm := rm_X12_gives) (mc := 0) (ms := 0) (n := 3) (av := [xi a1, xi (0 : Int), xi z6]) hY dX12_goes_27 rfl rfl rfl (by decide) (fun q hq => by rw [hfl]; exact S_X12_gives Y.1.2.1 a0 a1 (0 : Int) z6 M5 q hq) (cwV 3 hY.2.2.2.2.1 gX12_goes_X12_gives rfl rfl rfl (by decide +kernel) ⟨(by rw [hR]; exact Nat.le_of_ble_eq_true rfl), (by rw [hR]; exact Nat.le_of_ble_eq_true rfl)⟩) rfl (Nat.le_of_ble_eq_true rfl) ⟨(by rw [hR]; exact Nat.le_of_ble_eq_true rfl), (by rw [hR]; exact Nat.le_of_ble_eq_true rfl)⟩ (fun _ M7 => ?_)
  refine xv_aload_n rfl rfl hY dX12_goes_30 rfl ?_
  refine xv_iload_n rfl rfl hY dX12_goes_31 rfl ?_
  refine xv_iconst hY dX12_goes_32 rfl ?_
  refine xv_aload_n rfl rfl hY dX12_goes_33 rfl ?_
  refine xv_iload_n rfl rfl hY dX12_goes_34 rfl ?_
  refine xv_iconst hY dX12_goes_35 rfl ?_
  refine xv_callVI (ci := 12) (y := yX12_its) (ws := wsX12_its) (rm := rm_X12_its) (mc := 0) (ms := 0) (n := 2) (av := [xi a1, xi (4 : Int)]) hY dX12_goes_36 rfl rfl rfl (by decide) (fun q hq => by rw [hfl]; exact S_X12_its Y.1.2.1 a0 a1 (4 : Int) M7 q hq) (cwV 2 hY.2.2.2.2.1 gX12_goes_X12_its rfl rfl rfl (by decide +kernel) ⟨(by rw [hR]; exact Nat.le_of_ble_eq_true rfl), (by rw [hR]; exact Nat.le_of_ble_eq_true rfl)⟩) rfl (Nat.le_of_ble_eq_true rfl) ⟨(by rw [hR]; exact Nat.le_of_ble_eq_true rfl), (by rw [hR]; exact Nat.le_of_ble_eq_true rfl)⟩ (fun z9 M8 => ?_)
  refine xv_iload_n rfl rfl hY dX12_goes_39 rfl ?_
  refine xv_join (α := Nat × Int × Int × Int × Int) 49 (fun x10 => [some (xr a0), some (xi a1), some (xi z2), some (xi (z4 + z2)), some (xi z6)]) (fun x10 => [xi x10.2.2.2.2, xi x10.2.2.2.1, xi x10.2.2.1, xi x10.2.1, xr x10.1]) (fun x10 => M8) (fun x10 => ?_) (fun j11 hj11 => ?_)
  · refine xv_iadd hY dX12_goes_49 rfl ?_
    refine xv_callVV (ci := 12) (y := yX12_gives) (ws := wsX12_gives) (rm := rm_X12_gives) (mc := 0) (ms := 0) (n := 3) (av := [xi x10.2.1, xi x10.2.2.1, xi (x10.2.2.2.1 + x10.2.2.2.2)]) hY dX12_goes_50 rfl rfl rfl (by decide) (fun q hq => by rw [hfl]; exact S_X12_gives Y.1.2.1 x10.1 x10.2.1 x10.2.2.1 (x10.2.2.2.1 + x10.2.2.2.2) M8 q hq) (cwV 3 hY.2.2.2.2.1 gX12_goes_X12_gives rfl rfl rfl (by decide +kernel) ⟨(by rw [hR]; exact Nat.le_of_ble_eq_true rfl), (by rw [hR]; exact Nat.le_of_ble_eq_true rfl)⟩) rfl (Nat.le_of_ble_eq_true rfl) ⟨(by rw [hR]; exact Nat.le_of_ble_eq_true rfl), (by rw [hR]; exact Nat.le_of_ble_eq_true rfl)⟩ (fun _ M12 => ?_)
    refine xv_iload rfl hY dX12_goes_53 rfl ?_
    refine xv_iload_n rfl rfl hY dX12_goes_55 rfl ?_
    refine xv_join (α := xv_M) 89 (fun x13 => [some (xr a0), some (xi a1), none, none, none]) (fun x13 => []) (fun x13 => x13) (fun x13 => ?_) (fun j14 hj14 => ?_)
    · refine xv_aload_n rfl rfl hY dX12_goes_89 rfl ?_
      refine xv_iload_n rfl rfl hY dX12_goes_90 rfl ?_
      refine xv_callVI (ci := 12) (y := yX12_changes) (ws := wsX12_changes) (rm := rm_X12_changes) (mc := 0) (ms := 0) (n := 1) (av := [xi a1]) hY dX12_goes_91 rfl rfl rfl (by decide) (fun q hq => by rw [hfl]; exact S_X12_changes Y.1.2.1 a0 a1 x13 q hq) (cwV 1 hY.2.2.2.2.1 gX12_goes_X12_changes rfl rfl rfl (by decide +kernel) ⟨(by rw [hR]; exact Nat.le_of_ble_eq_true rfl), (by rw [hR]; exact Nat.le_of_ble_eq_true rfl)⟩) rfl (Nat.le_of_ble_eq_true rfl) ⟨(by rw [hR]; exact Nat.le_of_ble_eq_true rfl), (by rw [hR]; exact Nat.le_of_ble_eq_true rfl)⟩ (fun z16 M15 => ?_)
      exact xv_ireti hY hfl dX12_goes_94 hret (Nat.le_of_ble_eq_true rfl) (Nat.le_of_ble_eq_true rfl)
    · refine xv_icmp_eq (t := 89) hY dX12_goes_56 (by decide) rfl ?_ ?_
      · exact xv_mk (L' := [some (xr a0), some (xi a1), none, none, none]) [true, true, false, false, false] rfl (hj14 M12)
      · refine xv_aload_n rfl rfl hY dX12_goes_59 rfl ?_
        refine xv_iload_n rfl rfl hY dX12_goes_60 rfl ?_
        refine xv_iconst hY dX12_goes_61 rfl ?_
        refine xv_iload_n rfl rfl hY dX12_goes_62 rfl ?_
        refine xv_ineg hY dX12_goes_63 rfl ?_
        refine xv_callVV (ci := 12) (y := yX12_gives) (ws := wsX12_gives) (rm := rm_X12_gives) (mc := 0) (ms := 0) (n := 3) (av := [xi a1, xi (1 : Int), xi (-z2)]) hY dX12_goes_64 rfl rfl rfl (by decide) (fun q hq => by rw [hfl]; exact S_X12_gives Y.1.2.1 a0 a1 (1 : Int) (-z2) M12 q hq) (cwV 3 hY.2.2.2.2.1 gX12_goes_X12_gives rfl rfl rfl (by decide +kernel) ⟨(by rw [hR]; exact Nat.le_of_ble_eq_true rfl), (by rw [hR]; exact Nat.le_of_ble_eq_true rfl)⟩) rfl (Nat.le_of_ble_eq_true rfl) ⟨(by rw [hR]; exact Nat.le_of_ble_eq_true rfl), (by rw [hR]; exact Nat.le_of_ble_eq_true rfl)⟩ (fun _ M17 => ?_)
        refine xv_aload_n rfl rfl hY dX12_goes_67 rfl ?_
        refine xv_iload_n rfl rfl hY dX12_goes_68 rfl ?_
        refine xv_iconst hY dX12_goes_69 rfl ?_
        refine xv_aload_n rfl rfl hY dX12_goes_70 rfl ?_
        refine xv_iload_n rfl rfl hY dX12_goes_71 rfl ?_
        refine xv_iconst hY dX12_goes_72 rfl ?_
        refine xv_callVI (ci := 12) (y := yX12_its) (ws := wsX12_its) (rm := rm_X12_its) (mc := 0) (ms := 0) (n := 2) (av := [xi a1, xi (5 : Int)]) hY dX12_goes_73 rfl rfl rfl (by decide) (fun q hq => by rw [hfl]; exact S_X12_its Y.1.2.1 a0 a1 (5 : Int) M17 q hq) (cwV 2 hY.2.2.2.2.1 gX12_goes_X12_its rfl rfl rfl (by decide +kernel) ⟨(by rw [hR]; exact Nat.le_of_ble_eq_true rfl), (by rw [hR]; exact Nat.le_of_ble_eq_true rfl)⟩) rfl (Nat.le_of_ble_eq_true rfl) ⟨(by rw [hR]; exact Nat.le_of_ble_eq_true rfl), (by rw [hR]; exact Nat.le_of_ble_eq_true rfl)⟩ (fun z19 M18 => ?_)
        refine xv_iconst hY dX12_goes_76 rfl ?_
        refine xv_iadd hY dX12_goes_77 rfl ?_
        refine xv_callVV (ci := 12) (y := yX12_gives) (ws := wsX12_gives) (rm := rm_X12_gives) (mc := 0) (ms := 0) (n := 3) (av := [xi a1, xi (5 : Int), xi (z19 + (1 : Int))]) hY dX12_goes_78 rfl rfl rfl (by decide) (fun q hq => by rw [hfl]; exact S_X12_gives Y.1.2.1 a0 a1 (5 : Int) (z19 + (1 : Int)) M18 q hq) (cwV 3 hY.2.2.2.2.1 gX12_goes_X12_gives rfl rfl rfl (by decide +kernel) ⟨(by rw [hR]; exact Nat.le_of_ble_eq_true rfl), (by rw [hR]; exact Nat.le_of_ble_eq_true rfl)⟩) rfl (Nat.le_of_ble_eq_true rfl) ⟨(by rw [hR]; exact Nat.le_of_ble_eq_true rfl), (by rw [hR]; exact Nat.le_of_ble_eq_true rfl)⟩ (fun _ M20 => ?_)
        refine xv_aload_n rfl rfl hY dX12_goes_81 rfl ?_
        refine xv_iconst hY dX12_goes_82 rfl ?_
        refine xv_iload_n rfl rfl hY dX12_goes_83 rfl ?_
        refine xv_iload rfl hY dX12_goes_84 rfl ?_
        refine xv_callVV (ci := 12) (y := yX12_tells) (ws := wsX12_tells) (rm := rm_X12_tells) (mc := 0) (ms := 0) (n := 3) (av := [xi (2 : Int), xi a1, xi z6]) hY dX12_goes_86 rfl rfl rfl (by decide) (fun q hq => by rw [hfl]; exact S_X12_tells Y.1.2.1 a0 (2 : Int) a1 z6 M20 q hq) (cwV 3 hY.2.2.2.2.1 gX12_goes_X12_tells rfl rfl rfl (by decide +kernel) ⟨(by rw [hR]; exact Nat.le_of_ble_eq_true rfl), (by rw [hR]; exact Nat.le_of_ble_eq_true rfl)⟩) rfl (Nat.le_of_ble_eq_true rfl) ⟨(by rw [hR]; exact Nat.le_of_ble_eq_true rfl), (by rw [hR]; exact Nat.le_of_ble_eq_true rfl)⟩ (fun _ M21 => ?_)
        exact xv_mk (L' := [some (xr a0), some (xi a1), none, none, none]) [true, true, false, false, false] rfl (hj14 M21)
  · refine xv_if_ge (t := 48) hY dX12_goes_40 (by decide) rfl ?_ ?_
    · refine xv_iload_n rfl rfl hY dX12_goes_48 rfl ?_
      exact xv_mk (L' := [some (xr a0), some (xi a1), some (xi z2), some (xi (z4 + z2)), some (xi z6)]) [true, true, true, true, true] rfl (hj11 (a0, a1, (4 : Int), z9, z2))
    · refine xv_iload_n rfl rfl hY dX12_goes_43 rfl ?_
      refine xv_ineg hY dX12_goes_44 rfl ?_
      refine xv_goto (pc' := 49) hY dX12_goes_45 (by decide) ?_
      exact xv_mk (L' := [some (xr a0), some (xi a1), some (xi z2), some (xi (z4 + z2)), some (xi z6)]) [true, true, true, true, true] rfl (hj11 (a0, a1, (4 : Int), z9, (-z2)))
set_option maxHeartbeats 4000000 in
set_option maxRecDepth 100000 in
theorem S_X12_aTick (l : Launch) (a0 : Nat) (M : xv_M) (q : Int × xv_M) (h : D_X12_aTick a0 M = some q) : xv_Met l yX12_aTick wsX12_aTick rm_X12_aTick 0 0 false [xr a0] M (xv_qI false q) := by
  refine xv_enter (cc := cX12_aTick) (nL := 4) (ret := (some .int)) rfl (by decide +kernel) (Nat.le_of_ble_eq_true rfl) h ?_
  intro Y hY0 hl hR hnL hfl hret hnm0
  have hY : xv_ok Y cX12_aTick wsX12_aTick RX12 := hY0
  have hin12 : ∀ w ∈ u_ws RX12 TX12 18, w ∈ wsX12_aTick := fun _ h => List.mem_cons_of_mem _ (List.mem_append_right _ h)
  unfold D_X12_aTick
  refine xv_mk (L' := [some (xr a0), none, none, none]) [true, true, true, true] rfl ?_
  refine xv_aload_n rfl rfl hY dX12_aTick_0 rfl ?_
  refine xv_getP (ci := 12) (j := 0) hY dX12_aTick_1 rfl rfl rfl (by decide) hin12 (by decide) rfl (List.mem_of_getElem? (i := 1) rfl) (fun v1 => ?_)
  refine xv_iconst hY dX12_aTick_4 rfl ?_
  refine xv_dup2 hY dX12_aTick_5 rfl ?_
  refine xv_iald hY dX12_aTick_6 rfl (fun v2 => ?_)
  refine xv_iconst hY dX12_aTick_7 rfl ?_
  refine xv_iadd hY dX12_aTick_8 rfl ?_
  refine xv_iast hY hfl dX12_aTick_9 rfl (fun M3 => ?_)
  refine xv_iconst hY dX12_aTick_10 rfl ?_
  refine xv_istore_n (L' := [some (xr a0), some (xi (0 : Int)), none, none]) hY dX12_aTick_11 rfl rfl (by rw [hnL]; decide) rfl rfl ?_
  refine xv_iconst hY dX12_aTick_12 rfl ?_
  refine xv_istore_n (L' := [some (xr a0), some (xi (0 : Int)), some (xi (0 : Int)), none]) hY dX12_aTick_13 rfl rfl (by rw [hnL]; decide) rfl rfl ?_
  refine xv_mk (L' := [some (xr a0), some (xi (0 : Int)), some (xi (0 : Int)), none]) [true, true, true, false] rfl ?_
  refine xv_loop (σ := Int × Int × xv_M) (fun x4 => [some (xr a0), some (xi x4.1), some (xi x4.2.1), none]) (fun x4 => x4.2.2) (fun f5 hf5 x4 => ?_) xv_fuel ((0 : Int), (0 : Int), M3)
  refine xv_iload_n rfl rfl hY dX12_aTick_14 rfl ?_
  refine xv_aload_n rfl rfl hY dX12_aTick_15 rfl ?_
  refine xv_getP (ci := 12) (j := 0) hY dX12_aTick_16 rfl rfl rfl (by decide) hin12 (by decide) rfl (List.mem_of_getElem? (i := 1) rfl) (fun v6 => ?_)
  refine xv_iconst hY dX12_aTick_19 rfl ?_
  refine xv_iald hY dX12_aTick_20 rfl (fun v7 => ?_)
  refine xv_icmp_ge (t := 38) hY dX12_aTick_21 (by decide) rfl ?_ ?_
  · refine xv_iconst hY dX12_aTick_38 rfl ?_
    refine xv_istore_n (L' := [some (xr a0), some (xi x4.1), some (xi (0 : Int)), none]) hY dX12_aTick_39 rfl rfl (by rw [hnL]; decide) rfl rfl ?_
    refine xv_mk (L' := [some (xr a0), some (xi x4.1), some (xi (0 : Int)), none]) [true, true, true, false] rfl ?_
    refine xv_loop (σ := Int × xv_M) (fun x8 => [some (xr a0), some (xi x4.1), some (xi x8.1), none]) (fun x8 => x8.2) (fun f9 hf9 x8 => ?_) xv_fuel ((0 : Int), x4.2.2)
    refine xv_iload_n rfl rfl hY dX12_aTick_40 rfl ?_
    refine xv_aload_n rfl rfl hY dX12_aTick_41 rfl ?_
    refine xv_getP (ci := 12) (j := 0) hY dX12_aTick_42 rfl rfl rfl (by decide) hin12 (by decide) rfl (List.mem_of_getElem? (i := 1) rfl) (fun v10 => ?_)
    refine xv_iconst hY dX12_aTick_45 rfl ?_
    refine xv_iald hY dX12_aTick_46 rfl (fun v11 => ?_)
    refine xv_icmp_ge (t := 101) hY dX12_aTick_47 (by decide) rfl ?_ ?_
    · refine xv_iload_n rfl rfl hY dX12_aTick_101 rfl ?_
      exact xv_ireti hY hfl dX12_aTick_102 hret (Nat.le_of_ble_eq_true rfl) (Nat.le_of_ble_eq_true rfl)
    · refine xv_iconst hY dX12_aTick_50 rfl ?_
      refine xv_istore_n (L' := [some (xr a0), some (xi x4.1), some (xi x8.1), some (xi (0 : Int))]) hY dX12_aTick_51 rfl rfl (by rw [hnL]; decide) rfl rfl ?_
      refine xv_mk (L' := [some (xr a0), some (xi x4.1), some (xi x8.1), some (xi (0 : Int))]) [true, true, true, true] rfl ?_
      refine xv_loop (σ := Int × xv_M) (fun x12 => [some (xr a0), some (xi x4.1), some (xi x8.1), some (xi x12.1)]) (fun x12 => x12.2) (fun f13 hf13 x12 => ?_) xv_fuel ((0 : Int), x8.2)
      refine xv_iload_n rfl rfl hY dX12_aTick_52 rfl ?_
      refine xv_aload_n rfl rfl hY dX12_aTick_53 rfl ?_
      refine xv_getP (ci := 12) (j := 0) hY dX12_aTick_54 rfl rfl rfl (by decide) hin12 (by decide) rfl (List.mem_of_getElem? (i := 1) rfl) (fun v14 => ?_)
      refine xv_iconst hY dX12_aTick_57 rfl ?_
      refine xv_iald hY dX12_aTick_58 rfl (fun v15 => ?_)
      refine xv_icmp_ge (t := 95) hY dX12_aTick_59 (by decide) rfl ?_ ?_
      · refine xv_iinc (L' := [some (xr a0), some (xi x4.1), some (xi (x8.1 + 1)), some (xi x12.1)]) hY dX12_aTick_95 rfl (by rw [hnL]; decide) rfl rfl rfl ?_
        refine xv_goto (pc' := 40) hY dX12_aTick_98 (by decide) ?_
        exact xv_mk (L' := [some (xr a0), some (xi x4.1), some (xi (x8.1 + 1)), none]) [true, true, true, false] rfl (hf9 ((x8.1 + 1), x12.2))
      · refine xv_aload_n rfl rfl hY dX12_aTick_62 rfl ?_
        refine xv_iload_n rfl rfl hY dX12_aTick_63 rfl ?_
        refine xv_iconst hY dX12_aTick_64 rfl ?_
        refine xv_aload_n rfl rfl hY dX12_aTick_65 rfl ?_
        refine xv_iload_n rfl rfl hY dX12_aTick_66 rfl ?_
        refine xv_iconst hY dX12_aTick_67 rfl ?_
        refine xv_callVI (ci := 12) (y := yX12_of) (ws := wsX12_of) (rm := rm_X12_of) (mc := 0) (ms := 0) (n := 2) (av := [xi x12.1, xi (5 : Int)]) hY dX12_aTick_68 rfl rfl rfl (by decide) (fun q hq => by rw [hfl]; exact S_X12_of Y.1.2.1 a0 x12.1 (5 : Int) x12.2 q hq) (cwV 2 hY.2.2.2.2.1 gX12_aTick_X12_of rfl rfl rfl (by decide +kernel) ⟨(by rw [hR]; exact Nat.le_of_ble_eq_true rfl), (by rw [hR]; exact Nat.le_of_ble_eq_true rfl)⟩) rfl (Nat.le_of_ble_eq_true rfl) ⟨(by rw [hR]; exact Nat.le_of_ble_eq_true rfl), (by rw [hR]; exact Nat.le_of_ble_eq_true rfl)⟩ (fun z17 M16 => ?_)
        refine xv_aload_n rfl rfl hY dX12_aTick_71 rfl ?_
        refine xv_iload_n rfl rfl hY dX12_aTick_72 rfl ?_
        refine xv_iload_n rfl rfl hY dX12_aTick_73 rfl ?_
        refine xv_callVI (ci := 12) (y := yX12_isInside) (ws := wsX12_isInside) (rm := rm_X12_isInside) (mc := 0) (ms := 0) (n := 2) (av := [xi x8.1, xi x12.1]) hY dX12_aTick_74 rfl rfl rfl (by decide) (fun q hq => by rw [hfl]; exact S_X12_isInside Y.1.2.1 a0 x8.1 x12.1 M16 q hq) (cwV 2 hY.2.2.2.2.1 gX12_aTick_X12_isInside rfl rfl rfl (by decide +kernel) ⟨(by rw [hR]; exact Nat.le_of_ble_eq_true rfl), (by rw [hR]; exact Nat.le_of_ble_eq_true rfl)⟩) rfl (Nat.le_of_ble_eq_true rfl) ⟨(by rw [hR]; exact Nat.le_of_ble_eq_true rfl), (by rw [hR]; exact Nat.le_of_ble_eq_true rfl)⟩ (fun z19 M18 => ?_)
        refine xv_join (α := Nat × Int × Int × Int × Int) 85 (fun x20 => [some (xr a0), some (xi x4.1), some (xi x8.1), some (xi x12.1)]) (fun x20 => [xi x20.2.2.2.2, xi x20.2.2.2.1, xi x20.2.2.1, xi x20.2.1, xr x20.1]) (fun x20 => M18) (fun x20 => ?_) (fun j21 hj21 => ?_)
        · refine xv_iadd hY dX12_aTick_85 rfl ?_
          refine xv_callVV (ci := 12) (y := yX12_puts) (ws := wsX12_puts) (rm := rm_X12_puts) (mc := 0) (ms := 0) (n := 3) (av := [xi x20.2.1, xi x20.2.2.1, xi (x20.2.2.2.1 + x20.2.2.2.2)]) hY dX12_aTick_86 rfl rfl rfl (by decide) (fun q hq => by rw [hfl]; exact S_X12_puts Y.1.2.1 x20.1 x20.2.1 x20.2.2.1 (x20.2.2.2.1 + x20.2.2.2.2) M18 q hq) (cwV 3 hY.2.2.2.2.1 gX12_aTick_X12_puts rfl rfl rfl (by decide +kernel) ⟨(by rw [hR]; exact Nat.le_of_ble_eq_true rfl), (by rw [hR]; exact Nat.le_of_ble_eq_true rfl)⟩) rfl (Nat.le_of_ble_eq_true rfl) ⟨(by rw [hR]; exact Nat.le_of_ble_eq_true rfl), (by rw [hR]; exact Nat.le_of_ble_eq_true rfl)⟩ (fun _ M22 => ?_)
          refine xv_iinc (L' := [some (xr a0), some (xi x4.1), some (xi x8.1), some (xi (x12.1 + 1))]) hY dX12_aTick_89 rfl (by rw [hnL]; decide) rfl rfl rfl ?_
          refine xv_goto (pc' := 52) hY dX12_aTick_92 (by decide) ?_
          exact xv_mk (L' := [some (xr a0), some (xi x4.1), some (xi x8.1), some (xi (x12.1 + 1))]) [true, true, true, true] rfl (hf13 ((x12.1 + 1), M22))
        · refine xv_if_eq (t := 84) hY dX12_aTick_77 (by decide) rfl ?_ ?_
          · refine xv_iconst hY dX12_aTick_84 rfl ?_
            exact xv_mk (L' := [some (xr a0), some (xi x4.1), some (xi x8.1), some (xi x12.1)]) [true, true, true, true] rfl (hj21 (a0, x12.1, (5 : Int), z17, (0 : Int)))
          · refine xv_iconst hY dX12_aTick_80 rfl ?_
            refine xv_goto (pc' := 85) hY dX12_aTick_81 (by decide) ?_
            exact xv_mk (L' := [some (xr a0), some (xi x4.1), some (xi x8.1), some (xi x12.1)]) [true, true, true, true] rfl (hj21 (a0, x12.1, (5 : Int), z17, (1 : Int)))
  · refine xv_iload_n rfl rfl hY dX12_aTick_24 rfl ?_
    refine xv_aload_n rfl rfl hY dX12_aTick_25 rfl ?_
    refine xv_iload_n rfl rfl hY dX12_aTick_26 rfl ?_
    refine xv_callVI (ci := 12) (y := yX12_goes) (ws := wsX12_goes) (rm := rm_X12_goes) (mc := 0) (ms := 0) (n := 1) (av := [xi x4.2.1]) hY dX12_aTick_27 rfl rfl rfl (by decide) (fun q hq => by rw [hfl]; exact S_X12_goes Y.1.2.1 a0 x4.2.1 x4.2.2 q hq) (cwV 1 hY.2.2.2.2.1 gX12_aTick_X12_goes rfl rfl rfl (by decide +kernel) ⟨(by rw [hR]; exact Nat.le_of_ble_eq_true rfl), (by rw [hR]; exact Nat.le_of_ble_eq_true rfl)⟩) rfl (Nat.le_of_ble_eq_true rfl) ⟨(by rw [hR]; exact Nat.le_of_ble_eq_true rfl), (by rw [hR]; exact Nat.le_of_ble_eq_true rfl)⟩ (fun z24 M23 => ?_)
    refine xv_iadd hY dX12_aTick_30 rfl ?_
    refine xv_istore_n (L' := [some (xr a0), some (xi (x4.1 + z24)), some (xi x4.2.1), none]) hY dX12_aTick_31 rfl rfl (by rw [hnL]; decide) rfl rfl ?_
    refine xv_iinc (L' := [some (xr a0), some (xi (x4.1 + z24)), some (xi (x4.2.1 + 1)), none]) hY dX12_aTick_32 rfl (by rw [hnL]; decide) rfl rfl rfl ?_
    refine xv_goto (pc' := 14) hY dX12_aTick_35 (by decide) ?_
    exact xv_mk (L' := [some (xr a0), some (xi (x4.1 + z24)), some (xi (x4.2.1 + 1)), none]) [true, true, true, false] rfl (hf5 ((x4.1 + z24), (x4.2.1 + 1), M23))
set_option maxHeartbeats 4000000 in
set_option maxRecDepth 100000 in
theorem S_X12_pass (l : Launch) (a0 : Nat) (a1 : Int) (M : xv_M) (q : Int × xv_M) (h : D_X12_pass a0 a1 M = some q) : xv_Met l yX12_pass wsX12_pass rm_X12_pass 0 0 false [xr a0, xi a1] M (xv_qI false q) := by
  refine xv_enter (cc := cX12_pass) (nL := 4) (ret := (some .int)) rfl (by decide +kernel) (Nat.le_of_ble_eq_true rfl) h ?_
  intro Y hY0 hl hR hnL hfl hret hnm0
  have hY : xv_ok Y cX12_pass wsX12_pass RX12 := hY0
  have hin12 : ∀ w ∈ u_ws RX12 TX12 18, w ∈ wsX12_pass := fun _ h => List.mem_cons_of_mem _ (List.mem_append_right _ h)
  unfold D_X12_pass
  refine xv_mk (L' := [some (xr a0), some (xi a1), none, none]) [true, true, true, true] rfl ?_
  refine xv_iload_n rfl rfl hY dX12_pass_0 rfl ?_
  refine xv_iconst hY dX12_pass_1 rfl ?_
  refine xv_bipush (by decide) hY dX12_pass_2 rfl ?_
  refine xv_callSI (y := yX12_in) (ws := wsX12_in) (rm := rm_X12_in) (mc := 0) (ms := 0) (n := 3) (av := [xi a1, xi (1 : Int), xi (100 : Int)]) hY dX12_pass_4 rfl rfl (fun q hq => by rw [hfl]; exact S_X12_in Y.1.2.1 a1 (1 : Int) (100 : Int) M q hq) (va_cwS 3 hY.2.2.2.2.1 gX12_pass_X12_in rfl rfl rfl (by decide +kernel) ⟨(by rw [hR]; exact Nat.le_of_ble_eq_true rfl), (by rw [hR]; exact Nat.le_of_ble_eq_true rfl)⟩) rfl (Nat.le_of_ble_eq_true rfl) ⟨(by rw [hR]; exact Nat.le_of_ble_eq_true rfl), (by rw [hR]; exact Nat.le_of_ble_eq_true rfl)⟩ (fun z2 M1 => ?_)
  refine xv_if_ne (t := 13) hY dX12_pass_7 (by decide) rfl ?_ ?_
  · refine xv_aload_n rfl rfl hY dX12_pass_13 rfl ?_
    refine xv_getP (ci := 12) (j := 0) hY dX12_pass_14 rfl rfl rfl (by decide) hin12 (by decide) rfl (List.mem_of_getElem? (i := 1) rfl) (fun v3 => ?_)
    refine xv_iconst hY dX12_pass_17 rfl ?_
    refine xv_iald hY dX12_pass_18 rfl (fun v4 => ?_)
    refine xv_iload_n rfl rfl hY dX12_pass_19 rfl ?_
    refine xv_iadd hY dX12_pass_20 rfl ?_
    refine xv_sipush (by decide) hY dX12_pass_21 rfl ?_
    refine xv_icmp_le (t := 30) hY dX12_pass_24 (by decide) rfl ?_ ?_
    · refine xv_aload_n rfl rfl hY dX12_pass_30 rfl ?_
      refine xv_callVV (ci := 12) (y := yX12_record) (ws := wsX12_record) (rm := rm_X12_record) (mc := 0) (ms := 0) (n := 0) (av := []) hY dX12_pass_31 rfl rfl rfl (by decide) (fun q hq => by rw [hfl]; exact S_X12_record Y.1.2.1 a0 M1 q hq) (cwV 0 hY.2.2.2.2.1 gX12_pass_X12_record rfl rfl rfl (by decide +kernel) ⟨(by rw [hR]; exact Nat.le_of_ble_eq_true rfl), (by rw [hR]; exact Nat.le_of_ble_eq_true rfl)⟩) rfl (Nat.le_of_ble_eq_true rfl) ⟨(by rw [hR]; exact Nat.le_of_ble_eq_true rfl), (by rw [hR]; exact Nat.le_of_ble_eq_true rfl)⟩ (fun _ M5 => ?_)
      refine xv_iconst hY dX12_pass_34 rfl ?_
      refine xv_istore_n (L' := [some (xr a0), some (xi a1), some (xi (0 : Int)), none]) hY dX12_pass_35 rfl rfl (by rw [hnL]; decide) rfl rfl ?_
      refine xv_iconst hY dX12_pass_36 rfl ?_
      refine xv_istore_n (L' := [some (xr a0), some (xi a1), some (xi (0 : Int)), some (xi (0 : Int))]) hY dX12_pass_37 rfl rfl (by rw [hnL]; decide) rfl rfl ?_
      refine xv_mk (L' := [some (xr a0), some (xi a1), some (xi (0 : Int)), some (xi (0 : Int))]) [true, true, true, true] rfl ?_
      refine xv_loop (σ := Int × Int × xv_M) (fun x6 => [some (xr a0), some (xi a1), some (xi x6.1), some (xi x6.2.1)]) (fun x6 => x6.2.2) (fun f7 hf7 x6 => ?_) xv_fuel ((0 : Int), (0 : Int), M5)
      refine xv_iload_n rfl rfl hY dX12_pass_38 rfl ?_
      refine xv_iload_n rfl rfl hY dX12_pass_39 rfl ?_
      refine xv_icmp_ge (t := 56) hY dX12_pass_40 (by decide) rfl ?_ ?_
      · refine xv_iload_n rfl rfl hY dX12_pass_56 rfl ?_
        exact xv_ireti hY hfl dX12_pass_57 hret (Nat.le_of_ble_eq_true rfl) (Nat.le_of_ble_eq_true rfl)
      · refine xv_iload_n rfl rfl hY dX12_pass_43 rfl ?_
        refine xv_aload_n rfl rfl hY dX12_pass_44 rfl ?_
        refine xv_callVI (ci := 12) (y := yX12_aTick) (ws := wsX12_aTick) (rm := rm_X12_aTick) (mc := 0) (ms := 0) (n := 0) (av := []) hY dX12_pass_45 rfl rfl rfl (by decide) (fun q hq => by rw [hfl]; exact S_X12_aTick Y.1.2.1 a0 x6.2.2 q hq) (cwV 0 hY.2.2.2.2.1 gX12_pass_X12_aTick rfl rfl rfl (by decide +kernel) ⟨(by rw [hR]; exact Nat.le_of_ble_eq_true rfl), (by rw [hR]; exact Nat.le_of_ble_eq_true rfl)⟩) rfl (Nat.le_of_ble_eq_true rfl) ⟨(by rw [hR]; exact Nat.le_of_ble_eq_true rfl), (by rw [hR]; exact Nat.le_of_ble_eq_true rfl)⟩ (fun z9 M8 => ?_)
        refine xv_iadd hY dX12_pass_48 rfl ?_
        refine xv_istore_n (L' := [some (xr a0), some (xi a1), some (xi (x6.1 + z9)), some (xi x6.2.1)]) hY dX12_pass_49 rfl rfl (by rw [hnL]; decide) rfl rfl ?_
        refine xv_iinc (L' := [some (xr a0), some (xi a1), some (xi (x6.1 + z9)), some (xi (x6.2.1 + 1))]) hY dX12_pass_50 rfl (by rw [hnL]; decide) rfl rfl rfl ?_
        refine xv_goto (pc' := 38) hY dX12_pass_53 (by decide) ?_
        exact xv_mk (L' := [some (xr a0), some (xi a1), some (xi (x6.1 + z9)), some (xi (x6.2.1 + 1))]) [true, true, true, true] rfl (hf7 ((x6.1 + z9), (x6.2.1 + 1), M8))
    · refine xv_bipush (by decide) hY dX12_pass_27 rfl ?_
      exact xv_ireti hY hfl dX12_pass_29 hret (Nat.le_of_ble_eq_true rfl) (Nat.le_of_ble_eq_true rfl)
  · refine xv_bipush (by decide) hY dX12_pass_10 rfl ?_
    exact xv_ireti hY hfl dX12_pass_12 hret (Nat.le_of_ble_eq_true rfl) (Nat.le_of_ble_eq_true rfl)
set_option maxHeartbeats 4000000 in
set_option maxRecDepth 100000 in
theorem S_X12_type (l : Launch) (a0 : Nat) (a1 : Int) (M : xv_M) (q : Int × xv_M) (h : D_X12_type a0 a1 M = some q) : xv_Met l yX12_type wsX12_type rm_X12_type 0 0 false [xr a0, xi a1] M (xv_qI false q) := by
  refine xv_enter (cc := cX12_type) (nL := 2) (ret := (some .int)) rfl (by decide +kernel) (Nat.le_of_ble_eq_true rfl) h ?_
  intro Y hY0 hl hR hnL hfl hret hnm0
  have hY : xv_ok Y cX12_type wsX12_type RX12 := hY0
  have hin12 : ∀ w ∈ u_ws RX12 TX12 18, w ∈ wsX12_type := fun _ h => List.mem_cons_of_mem _ (List.mem_append_right _ h)
  unfold D_X12_type
  refine xv_mk (L' := [some (xr a0), some (xi a1)]) [true, true] rfl ?_
  refine xv_aload_n rfl rfl hY dX12_type_0 rfl ?_
  refine xv_getI (ci := 12) (j := 5) hY dX12_type_1 rfl rfl rfl (by decide) hin12 (by decide) rfl (List.mem_of_getElem? (i := 1) rfl) (fun v1 => ?_)
  refine xv_bipush (by decide) hY dX12_type_4 rfl ?_
  refine xv_icmp_ne (t := 12) hY dX12_type_6 (by decide) rfl ?_ ?_
  · refine xv_aload_n rfl rfl hY dX12_type_12 rfl ?_
    refine xv_getP (ci := 12) (j := 6) hY dX12_type_13 rfl rfl rfl (by decide) hin12 (by decide) rfl (List.mem_of_getElem? (i := 2) rfl) (fun v2 => ?_)
    refine xv_aload_n rfl rfl hY dX12_type_16 rfl ?_
    refine xv_getI (ci := 12) (j := 5) hY dX12_type_17 rfl rfl rfl (by decide) hin12 (by decide) rfl (List.mem_of_getElem? (i := 1) rfl) (fun v3 => ?_)
    refine xv_iload_n rfl rfl hY dX12_type_20 rfl ?_
    refine xv_cast hY hfl dX12_type_21 rfl (fun M4 => ?_)
    refine xv_aload_n rfl rfl hY dX12_type_22 rfl ?_
    refine xv_dupr hY dX12_type_23 rfl ?_
    refine xv_getI (ci := 12) (j := 5) hY dX12_type_24 rfl rfl rfl (by decide) hin12 (by decide) rfl (List.mem_of_getElem? (i := 1) rfl) (fun v5 => ?_)
    refine xv_iconst hY dX12_type_27 rfl ?_
    refine xv_iadd hY dX12_type_28 rfl ?_
    refine xv_putI (ci := 12) (j := 5) hY dX12_type_29 rfl rfl rfl (by decide) hin12 (by decide) rfl (List.mem_of_getElem? (i := 1) rfl) tyX12_ok nmX12 (Or.inl rfl) rfl (fun M6 => ?_)
    refine xv_aload_n rfl rfl hY dX12_type_32 rfl ?_
    refine xv_getI (ci := 12) (j := 5) hY dX12_type_33 rfl rfl rfl (by decide) hin12 (by decide) rfl (List.mem_of_getElem? (i := 1) rfl) (fun v7 => ?_)
    exact xv_ireti hY hfl dX12_type_36 hret (Nat.le_of_ble_eq_true rfl) (Nat.le_of_ble_eq_true rfl)
  · refine xv_bipush (by decide) hY dX12_type_9 rfl ?_
    exact xv_ireti hY hfl dX12_type_11 hret (Nat.le_of_ble_eq_true rfl) (Nat.le_of_ble_eq_true rfl)
set_option maxHeartbeats 4000000 in
set_option maxRecDepth 100000 in
theorem S_X12_clearText (l : Launch) (a0 : Nat) (M : xv_M) (q : Int × xv_M) (h : D_X12_clearText a0 M = some q) : xv_Met l yX12_clearText wsX12_clearText rm_X12_clearText 0 0 false [xr a0] M (xv_qI false q) := by
  refine xv_enter (cc := cX12_clearText) (nL := 2) (ret := (some .int)) rfl (by decide +kernel) (Nat.le_of_ble_eq_true rfl) h ?_
  intro Y hY0 hl hR hnL hfl hret hnm0
  have hY : xv_ok Y cX12_clearText wsX12_clearText RX12 := hY0
  have hin12 : ∀ w ∈ u_ws RX12 TX12 18, w ∈ wsX12_clearText := fun _ h => List.mem_cons_of_mem _ (List.mem_append_right _ h)
  unfold D_X12_clearText
  refine xv_mk (L' := [some (xr a0), none]) [true, true] rfl ?_
  refine xv_aload_n rfl rfl hY dX12_clearText_0 rfl ?_
  refine xv_getI (ci := 12) (j := 5) hY dX12_clearText_1 rfl rfl rfl (by decide) hin12 (by decide) rfl (List.mem_of_getElem? (i := 1) rfl) (fun v1 => ?_)
  refine xv_istore_n (L' := [some (xr a0), some (xi v1)]) hY dX12_clearText_4 rfl rfl (by rw [hnL]; decide) rfl rfl ?_
  refine xv_aload_n rfl rfl hY dX12_clearText_5 rfl ?_
  refine xv_iconst hY dX12_clearText_6 rfl ?_
  refine xv_putI (ci := 12) (j := 5) hY dX12_clearText_7 rfl rfl rfl (by decide) hin12 (by decide) rfl (List.mem_of_getElem? (i := 1) rfl) tyX12_ok nmX12 (Or.inl rfl) rfl (fun M2 => ?_)
  refine xv_iload_n rfl rfl hY dX12_clearText_10 rfl ?_
  exact xv_ireti hY hfl dX12_clearText_11 hret (Nat.le_of_ble_eq_true rfl) (Nat.le_of_ble_eq_true rfl)
set_option maxHeartbeats 4000000 in
set_option maxRecDepth 100000 in
theorem S_X12_isDigit (l : Launch) (a0 : Nat) (M : xv_M) (q : Int × xv_M) (h : D_X12_isDigit a0 M = some q) : xv_Met l yX12_isDigit wsX12_isDigit rm_X12_isDigit 0 0 false [xr a0] M (xv_qI false q) := by
  refine xv_enter (cc := cX12_isDigit) (nL := 1) (ret := (some .boolean)) rfl (by decide +kernel) (Nat.le_of_ble_eq_true rfl) h ?_
  intro Y hY0 hl hR hnL hfl hret hnm0
  have hY : xv_ok Y cX12_isDigit wsX12_isDigit RX12 := hY0
  have hin12 : ∀ w ∈ u_ws RX12 TX12 18, w ∈ wsX12_isDigit := fun _ h => List.mem_cons_of_mem _ (List.mem_append_right _ h)
  unfold D_X12_isDigit
  refine xv_mk (L' := [some (xr a0)]) [true] rfl ?_
  refine xv_aload_n rfl rfl hY dX12_isDigit_0 rfl ?_
  refine xv_getI (ci := 12) (j := 7) hY dX12_isDigit_1 rfl rfl rfl (by decide) hin12 (by decide) rfl (List.mem_of_getElem? (i := 1) rfl) (fun v1 => ?_)
  refine xv_aload_n rfl rfl hY dX12_isDigit_4 rfl ?_
  refine xv_getI (ci := 12) (j := 5) hY dX12_isDigit_5 rfl rfl rfl (by decide) hin12 (by decide) rfl (List.mem_of_getElem? (i := 2) rfl) (fun v2 => ?_)
  refine xv_icmp_ge (t := 34) hY dX12_isDigit_8 (by decide) rfl ?_ ?_
  · refine xv_iconst hY dX12_isDigit_34 rfl ?_
    exact xv_iretz hY hfl dX12_isDigit_35 hret (Nat.le_of_ble_eq_true rfl) (Nat.le_of_ble_eq_true rfl)
  · refine xv_aload_n rfl rfl hY dX12_isDigit_11 rfl ?_
    refine xv_getP (ci := 12) (j := 6) hY dX12_isDigit_12 rfl rfl rfl (by decide) hin12 (by decide) rfl (List.mem_of_getElem? (i := 3) rfl) (fun v3 => ?_)
    refine xv_aload_n rfl rfl hY dX12_isDigit_15 rfl ?_
    refine xv_getI (ci := 12) (j := 7) hY dX12_isDigit_16 rfl rfl rfl (by decide) hin12 (by decide) rfl (List.mem_of_getElem? (i := 1) rfl) (fun v4 => ?_)
    refine xv_cald hY dX12_isDigit_19 rfl (fun v5 => ?_)
    refine xv_bipush (by decide) hY dX12_isDigit_20 rfl ?_
    refine xv_bipush (by decide) hY dX12_isDigit_22 rfl ?_
    refine xv_callSI (y := yX12_in) (ws := wsX12_in) (rm := rm_X12_in) (mc := 0) (ms := 0) (n := 3) (av := [xi v5, xi (48 : Int), xi (57 : Int)]) hY dX12_isDigit_24 rfl rfl (fun q hq => by rw [hfl]; exact S_X12_in Y.1.2.1 v5 (48 : Int) (57 : Int) M q hq) (va_cwS 3 hY.2.2.2.2.1 gX12_isDigit_X12_in rfl rfl rfl (by decide +kernel) ⟨(by rw [hR]; exact Nat.le_of_ble_eq_true rfl), (by rw [hR]; exact Nat.le_of_ble_eq_true rfl)⟩) rfl (Nat.le_of_ble_eq_true rfl) ⟨(by rw [hR]; exact Nat.le_of_ble_eq_true rfl), (by rw [hR]; exact Nat.le_of_ble_eq_true rfl)⟩ (fun z7 M6 => ?_)
    refine xv_if_eq (t := 34) hY dX12_isDigit_27 (by decide) rfl ?_ ?_
    · refine xv_iconst hY dX12_isDigit_34 rfl ?_
      exact xv_iretz hY hfl dX12_isDigit_35 hret (Nat.le_of_ble_eq_true rfl) (Nat.le_of_ble_eq_true rfl)
    · refine xv_iconst hY dX12_isDigit_30 rfl ?_
      refine xv_goto (pc' := 35) hY dX12_isDigit_31 (by decide) ?_
      exact xv_iretz hY hfl dX12_isDigit_35 hret (Nat.le_of_ble_eq_true rfl) (Nat.le_of_ble_eq_true rfl)
set_option maxHeartbeats 4000000 in
set_option maxRecDepth 100000 in
theorem S_X12_takes (l : Launch) (a0 : Nat) (a1 : Int) (M : xv_M) (q : Int × xv_M) (h : D_X12_takes a0 a1 M = some q) : xv_Met l yX12_takes wsX12_takes rm_X12_takes 0 0 false [xr a0, xi a1] M (xv_qI false q) := by
  refine xv_enter (cc := cX12_takes) (nL := 2) (ret := (some .boolean)) rfl (by decide +kernel) (Nat.le_of_ble_eq_true rfl) h ?_
  intro Y hY0 hl hR hnL hfl hret hnm0
  have hY : xv_ok Y cX12_takes wsX12_takes RX12 := hY0
  have hin12 : ∀ w ∈ u_ws RX12 TX12 18, w ∈ wsX12_takes := fun _ h => List.mem_cons_of_mem _ (List.mem_append_right _ h)
  unfold D_X12_takes
  refine xv_mk (L' := [some (xr a0), some (xi a1)]) [true, true] rfl ?_
  refine xv_aload_n rfl rfl hY dX12_takes_0 rfl ?_
  refine xv_getI (ci := 12) (j := 7) hY dX12_takes_1 rfl rfl rfl (by decide) hin12 (by decide) rfl (List.mem_of_getElem? (i := 1) rfl) (fun v1 => ?_)
  refine xv_aload_n rfl rfl hY dX12_takes_4 rfl ?_
  refine xv_getI (ci := 12) (j := 5) hY dX12_takes_5 rfl rfl rfl (by decide) hin12 (by decide) rfl (List.mem_of_getElem? (i := 2) rfl) (fun v2 => ?_)
  refine xv_icmp_eq (t := 24) hY dX12_takes_8 (by decide) rfl ?_ ?_
  · refine xv_iconst hY dX12_takes_24 rfl ?_
    exact xv_iretz hY hfl dX12_takes_25 hret (Nat.le_of_ble_eq_true rfl) (Nat.le_of_ble_eq_true rfl)
  · refine xv_aload_n rfl rfl hY dX12_takes_11 rfl ?_
    refine xv_getP (ci := 12) (j := 6) hY dX12_takes_12 rfl rfl rfl (by decide) hin12 (by decide) rfl (List.mem_of_getElem? (i := 3) rfl) (fun v3 => ?_)
    refine xv_aload_n rfl rfl hY dX12_takes_15 rfl ?_
    refine xv_getI (ci := 12) (j := 7) hY dX12_takes_16 rfl rfl rfl (by decide) hin12 (by decide) rfl (List.mem_of_getElem? (i := 1) rfl) (fun v4 => ?_)
    refine xv_cald hY dX12_takes_19 rfl (fun v5 => ?_)
    refine xv_iload_n rfl rfl hY dX12_takes_20 rfl ?_
    refine xv_icmp_eq (t := 26) hY dX12_takes_21 (by decide) rfl ?_ ?_
    · refine xv_aload_n rfl rfl hY dX12_takes_26 rfl ?_
      refine xv_dupr hY dX12_takes_27 rfl ?_
      refine xv_getI (ci := 12) (j := 7) hY dX12_takes_28 rfl rfl rfl (by decide) hin12 (by decide) rfl (List.mem_of_getElem? (i := 1) rfl) (fun v6 => ?_)
      refine xv_iconst hY dX12_takes_31 rfl ?_
      refine xv_iadd hY dX12_takes_32 rfl ?_
      refine xv_putI (ci := 12) (j := 7) hY dX12_takes_33 rfl rfl rfl (by decide) hin12 (by decide) rfl (List.mem_of_getElem? (i := 1) rfl) tyX12_ok nmX12 (Or.inl rfl) rfl (fun M7 => ?_)
      refine xv_iconst hY dX12_takes_36 rfl ?_
      exact xv_iretz hY hfl dX12_takes_37 hret (Nat.le_of_ble_eq_true rfl) (Nat.le_of_ble_eq_true rfl)
    · refine xv_iconst hY dX12_takes_24 rfl ?_
      exact xv_iretz hY hfl dX12_takes_25 hret (Nat.le_of_ble_eq_true rfl) (Nat.le_of_ble_eq_true rfl)
set_option maxHeartbeats 4000000 in
set_option maxRecDepth 100000 in
theorem S_X12_takesNumber (l : Launch) (a0 : Nat) (M : xv_M) (q : Int × xv_M) (h : D_X12_takesNumber a0 M = some q) : xv_Met l yX12_takesNumber wsX12_takesNumber rm_X12_takesNumber 0 0 false [xr a0] M (xv_qI false q) := by
  refine xv_enter (cc := cX12_takesNumber) (nL := 2) (ret := (some .boolean)) rfl (by decide +kernel) (Nat.le_of_ble_eq_true rfl) h ?_
  intro Y hY0 hl hR hnL hfl hret hnm0
  have hY : xv_ok Y cX12_takesNumber wsX12_takesNumber RX12 := hY0
  have hin12 : ∀ w ∈ u_ws RX12 TX12 18, w ∈ wsX12_takesNumber := fun _ h => List.mem_cons_of_mem _ (List.mem_append_right _ h)
  unfold D_X12_takesNumber
  refine xv_mk (L' := [some (xr a0), none]) [true, true] rfl ?_
  refine xv_aload_n rfl rfl hY dX12_takesNumber_0 rfl ?_
  refine xv_callVI (ci := 12) (y := yX12_isDigit) (ws := wsX12_isDigit) (rm := rm_X12_isDigit) (mc := 0) (ms := 0) (n := 0) (av := []) hY dX12_takesNumber_1 rfl rfl rfl (by decide) (fun q hq => by rw [hfl]; exact S_X12_isDigit Y.1.2.1 a0 M q hq) (cwV 0 hY.2.2.2.2.1 gX12_takesNumber_X12_isDigit rfl rfl rfl (by decide +kernel) ⟨(by rw [hR]; exact Nat.le_of_ble_eq_true rfl), (by rw [hR]; exact Nat.le_of_ble_eq_true rfl)⟩) rfl (Nat.le_of_ble_eq_true rfl) ⟨(by rw [hR]; exact Nat.le_of_ble_eq_true rfl), (by rw [hR]; exact Nat.le_of_ble_eq_true rfl)⟩ (fun z2 M1 => ?_)
  refine xv_if_ne (t := 9) hY dX12_takesNumber_4 (by decide) rfl ?_ ?_
  · refine xv_aload_n rfl rfl hY dX12_takesNumber_9 rfl ?_
    refine xv_aload_n rfl rfl hY dX12_takesNumber_10 rfl ?_
    refine xv_getP (ci := 12) (j := 6) hY dX12_takesNumber_11 rfl rfl rfl (by decide) hin12 (by decide) rfl (List.mem_of_getElem? (i := 1) rfl) (fun v3 => ?_)
    refine xv_aload_n rfl rfl hY dX12_takesNumber_14 rfl ?_
    refine xv_getI (ci := 12) (j := 7) hY dX12_takesNumber_15 rfl rfl rfl (by decide) hin12 (by decide) rfl (List.mem_of_getElem? (i := 2) rfl) (fun v4 => ?_)
    refine xv_cald hY dX12_takesNumber_18 rfl (fun v5 => ?_)
    refine xv_bipush (by decide) hY dX12_takesNumber_19 rfl ?_
    refine xv_isub hY dX12_takesNumber_21 rfl ?_
    refine xv_putI (ci := 12) (j := 8) hY dX12_takesNumber_22 rfl rfl rfl (by decide) hin12 (by decide) rfl (List.mem_of_getElem? (i := 3) rfl) tyX12_ok nmX12 (Or.inl rfl) rfl (fun M6 => ?_)
    refine xv_aload_n rfl rfl hY dX12_takesNumber_25 rfl ?_
    refine xv_dupr hY dX12_takesNumber_26 rfl ?_
    refine xv_getI (ci := 12) (j := 7) hY dX12_takesNumber_27 rfl rfl rfl (by decide) hin12 (by decide) rfl (List.mem_of_getElem? (i := 2) rfl) (fun v7 => ?_)
    refine xv_iconst hY dX12_takesNumber_30 rfl ?_
    refine xv_iadd hY dX12_takesNumber_31 rfl ?_
    refine xv_putI (ci := 12) (j := 7) hY dX12_takesNumber_32 rfl rfl rfl (by decide) hin12 (by decide) rfl (List.mem_of_getElem? (i := 2) rfl) tyX12_ok nmX12 (Or.inl rfl) rfl (fun M8 => ?_)
    refine xv_iconst hY dX12_takesNumber_35 rfl ?_
    refine xv_istore_n (L' := [some (xr a0), some (xi (1 : Int))]) hY dX12_takesNumber_36 rfl rfl (by rw [hnL]; decide) rfl rfl ?_
    refine xv_mk (L' := [some (xr a0), some (xi (1 : Int))]) [true, true] rfl ?_
    refine xv_loop (σ := Int × xv_M) (fun x9 => [some (xr a0), some (xi x9.1)]) (fun x9 => x9.2) (fun f10 hf10 x9 => ?_) xv_fuel ((1 : Int), M8)
    refine xv_iload_n rfl rfl hY dX12_takesNumber_37 rfl ?_
    refine xv_iconst hY dX12_takesNumber_38 rfl ?_
    refine xv_icmp_ge (t := 96) hY dX12_takesNumber_39 (by decide) rfl ?_ ?_
    · refine xv_iconst hY dX12_takesNumber_96 rfl ?_
      exact xv_iretz hY hfl dX12_takesNumber_97 hret (Nat.le_of_ble_eq_true rfl) (Nat.le_of_ble_eq_true rfl)
    · refine xv_aload_n rfl rfl hY dX12_takesNumber_42 rfl ?_
      refine xv_getI (ci := 12) (j := 8) hY dX12_takesNumber_43 rfl rfl rfl (by decide) hin12 (by decide) rfl (List.mem_of_getElem? (i := 3) rfl) (fun v11 => ?_)
      refine xv_if_le (t := 96) hY dX12_takesNumber_46 (by decide) rfl ?_ ?_
      · refine xv_iconst hY dX12_takesNumber_96 rfl ?_
        exact xv_iretz hY hfl dX12_takesNumber_97 hret (Nat.le_of_ble_eq_true rfl) (Nat.le_of_ble_eq_true rfl)
      · refine xv_aload_n rfl rfl hY dX12_takesNumber_49 rfl ?_
        refine xv_callVI (ci := 12) (y := yX12_isDigit) (ws := wsX12_isDigit) (rm := rm_X12_isDigit) (mc := 0) (ms := 0) (n := 0) (av := []) hY dX12_takesNumber_50 rfl rfl rfl (by decide) (fun q hq => by rw [hfl]; exact S_X12_isDigit Y.1.2.1 a0 x9.2 q hq) (cwV 0 hY.2.2.2.2.1 gX12_takesNumber_X12_isDigit rfl rfl rfl (by decide +kernel) ⟨(by rw [hR]; exact Nat.le_of_ble_eq_true rfl), (by rw [hR]; exact Nat.le_of_ble_eq_true rfl)⟩) rfl (Nat.le_of_ble_eq_true rfl) ⟨(by rw [hR]; exact Nat.le_of_ble_eq_true rfl), (by rw [hR]; exact Nat.le_of_ble_eq_true rfl)⟩ (fun z13 M12 => ?_)
        refine xv_if_eq (t := 96) hY dX12_takesNumber_53 (by decide) rfl ?_ ?_
        · refine xv_iconst hY dX12_takesNumber_96 rfl ?_
          exact xv_iretz hY hfl dX12_takesNumber_97 hret (Nat.le_of_ble_eq_true rfl) (Nat.le_of_ble_eq_true rfl)
        · refine xv_aload_n rfl rfl hY dX12_takesNumber_56 rfl ?_
          refine xv_bipush (by decide) hY dX12_takesNumber_57 rfl ?_
          refine xv_aload_n rfl rfl hY dX12_takesNumber_59 rfl ?_
          refine xv_getI (ci := 12) (j := 8) hY dX12_takesNumber_60 rfl rfl rfl (by decide) hin12 (by decide) rfl (List.mem_of_getElem? (i := 3) rfl) (fun v14 => ?_)
          refine xv_imul hY dX12_takesNumber_63 rfl ?_
          refine xv_aload_n rfl rfl hY dX12_takesNumber_64 rfl ?_
          refine xv_getP (ci := 12) (j := 6) hY dX12_takesNumber_65 rfl rfl rfl (by decide) hin12 (by decide) rfl (List.mem_of_getElem? (i := 1) rfl) (fun v15 => ?_)
          refine xv_aload_n rfl rfl hY dX12_takesNumber_68 rfl ?_
          refine xv_getI (ci := 12) (j := 7) hY dX12_takesNumber_69 rfl rfl rfl (by decide) hin12 (by decide) rfl (List.mem_of_getElem? (i := 2) rfl) (fun v16 => ?_)
          refine xv_cald hY dX12_takesNumber_72 rfl (fun v17 => ?_)
          refine xv_iadd hY dX12_takesNumber_73 rfl ?_
          refine xv_bipush (by decide) hY dX12_takesNumber_74 rfl ?_
          refine xv_isub hY dX12_takesNumber_76 rfl ?_
          refine xv_putI (ci := 12) (j := 8) hY dX12_takesNumber_77 rfl rfl rfl (by decide) hin12 (by decide) rfl (List.mem_of_getElem? (i := 3) rfl) tyX12_ok nmX12 (Or.inl rfl) rfl (fun M18 => ?_)
          refine xv_aload_n rfl rfl hY dX12_takesNumber_80 rfl ?_
          refine xv_dupr hY dX12_takesNumber_81 rfl ?_
          refine xv_getI (ci := 12) (j := 7) hY dX12_takesNumber_82 rfl rfl rfl (by decide) hin12 (by decide) rfl (List.mem_of_getElem? (i := 2) rfl) (fun v19 => ?_)
          refine xv_iconst hY dX12_takesNumber_85 rfl ?_
          refine xv_iadd hY dX12_takesNumber_86 rfl ?_
          refine xv_putI (ci := 12) (j := 7) hY dX12_takesNumber_87 rfl rfl rfl (by decide) hin12 (by decide) rfl (List.mem_of_getElem? (i := 2) rfl) tyX12_ok nmX12 (Or.inl rfl) rfl (fun M20 => ?_)
          refine xv_iinc (L' := [some (xr a0), some (xi (x9.1 + 1))]) hY dX12_takesNumber_90 rfl (by rw [hnL]; decide) rfl rfl rfl ?_
          refine xv_goto (pc' := 37) hY dX12_takesNumber_93 (by decide) ?_
          exact xv_mk (L' := [some (xr a0), some (xi (x9.1 + 1))]) [true, true] rfl (hf10 ((x9.1 + 1), M20))
  · refine xv_iconst hY dX12_takesNumber_7 rfl ?_
    exact xv_iretz hY hfl dX12_takesNumber_8 hret (Nat.le_of_ble_eq_true rfl) (Nat.le_of_ble_eq_true rfl)
set_option maxHeartbeats 4000000 in
set_option maxRecDepth 100000 in
theorem S_X12_takesSpan (l : Launch) (a0 : Nat) (M : xv_M) (q : Int × xv_M) (h : D_X12_takesSpan a0 M = some q) : xv_Met l yX12_takesSpan wsX12_takesSpan rm_X12_takesSpan 0 0 false [xr a0] M (xv_qI false q) := by
  refine xv_enter (cc := cX12_takesSpan) (nL := 3) (ret := (some .boolean)) rfl (by decide +kernel) (Nat.le_of_ble_eq_true rfl) h ?_
  intro Y hY0 hl hR hnL hfl hret hnm0
  have hY : xv_ok Y cX12_takesSpan wsX12_takesSpan RX12 := hY0
  have hin12 : ∀ w ∈ u_ws RX12 TX12 18, w ∈ wsX12_takesSpan := fun _ h => List.mem_cons_of_mem _ (List.mem_append_right _ h)
  unfold D_X12_takesSpan
  refine xv_mk (L' := [some (xr a0), none, none]) [true, true, true] rfl ?_
  refine xv_aload_n rfl rfl hY dX12_takesSpan_0 rfl ?_
  refine xv_bipush (by decide) hY dX12_takesSpan_1 rfl ?_
  refine xv_callVI (ci := 12) (y := yX12_takes) (ws := wsX12_takes) (rm := rm_X12_takes) (mc := 0) (ms := 0) (n := 1) (av := [xi (40 : Int)]) hY dX12_takesSpan_3 rfl rfl rfl (by decide) (fun q hq => by rw [hfl]; exact S_X12_takes Y.1.2.1 a0 (40 : Int) M q hq) (cwV 1 hY.2.2.2.2.1 gX12_takesSpan_X12_takes rfl rfl rfl (by decide +kernel) ⟨(by rw [hR]; exact Nat.le_of_ble_eq_true rfl), (by rw [hR]; exact Nat.le_of_ble_eq_true rfl)⟩) rfl (Nat.le_of_ble_eq_true rfl) ⟨(by rw [hR]; exact Nat.le_of_ble_eq_true rfl), (by rw [hR]; exact Nat.le_of_ble_eq_true rfl)⟩ (fun z2 M1 => ?_)
  refine xv_istore_n (L' := [some (xr a0), some (xi z2), none]) hY dX12_takesSpan_6 rfl rfl (by rw [hnL]; decide) rfl rfl ?_
  refine xv_iload_n rfl rfl hY dX12_takesSpan_7 rfl ?_
  refine xv_join (α := xv_M) 22 (fun x3 => [some (xr a0), some (xi z2), none]) (fun x3 => []) (fun x3 => x3) (fun x3 => ?_) (fun j4 hj4 => ?_)
  · refine xv_aload_n rfl rfl hY dX12_takesSpan_22 rfl ?_
    refine xv_callVI (ci := 12) (y := yX12_takesNumber) (ws := wsX12_takesNumber) (rm := rm_X12_takesNumber) (mc := 0) (ms := 0) (n := 0) (av := []) hY dX12_takesSpan_23 rfl rfl rfl (by decide) (fun q hq => by rw [hfl]; exact S_X12_takesNumber Y.1.2.1 a0 x3 q hq) (cwV 0 hY.2.2.2.2.1 gX12_takesSpan_X12_takesNumber rfl rfl rfl (by decide +kernel) ⟨(by rw [hR]; exact Nat.le_of_ble_eq_true rfl), (by rw [hR]; exact Nat.le_of_ble_eq_true rfl)⟩) rfl (Nat.le_of_ble_eq_true rfl) ⟨(by rw [hR]; exact Nat.le_of_ble_eq_true rfl), (by rw [hR]; exact Nat.le_of_ble_eq_true rfl)⟩ (fun z6 M5 => ?_)
    refine xv_if_ne (t := 31) hY dX12_takesSpan_26 (by decide) rfl ?_ ?_
    · refine xv_aload_n rfl rfl hY dX12_takesSpan_31 rfl ?_
      refine xv_aload_n rfl rfl hY dX12_takesSpan_32 rfl ?_
      refine xv_getI (ci := 12) (j := 8) hY dX12_takesSpan_33 rfl rfl rfl (by decide) hin12 (by decide) rfl (List.mem_of_getElem? (i := 1) rfl) (fun v7 => ?_)
      refine xv_putI (ci := 12) (j := 9) hY dX12_takesSpan_36 rfl rfl rfl (by decide) hin12 (by decide) rfl (List.mem_of_getElem? (i := 2) rfl) tyX12_ok nmX12 (Or.inl rfl) rfl (fun M8 => ?_)
      refine xv_aload_n rfl rfl hY dX12_takesSpan_39 rfl ?_
      refine xv_iload_n rfl rfl hY dX12_takesSpan_40 rfl ?_
      refine xv_join (α := Nat × Int) 57 (fun x9 => [some (xr a0), none, none]) (fun x9 => [xi x9.2, xr x9.1]) (fun x9 => M8) (fun x9 => ?_) (fun j10 hj10 => ?_)
      · refine xv_putI (ci := 12) (j := 11) hY dX12_takesSpan_57 rfl rfl rfl (by decide) hin12 (by decide) rfl (List.mem_of_getElem? (i := 3) rfl) tyX12_ok nmX12 (Or.inl rfl) rfl (fun M11 => ?_)
        refine xv_aload_n rfl rfl hY dX12_takesSpan_60 rfl ?_
        refine xv_bipush (by decide) hY dX12_takesSpan_61 rfl ?_
        refine xv_callVI (ci := 12) (y := yX12_takes) (ws := wsX12_takes) (rm := rm_X12_takes) (mc := 0) (ms := 0) (n := 1) (av := [xi (44 : Int)]) hY dX12_takesSpan_63 rfl rfl rfl (by decide) (fun q hq => by rw [hfl]; exact S_X12_takes Y.1.2.1 a0 (44 : Int) M11 q hq) (cwV 1 hY.2.2.2.2.1 gX12_takesSpan_X12_takes rfl rfl rfl (by decide +kernel) ⟨(by rw [hR]; exact Nat.le_of_ble_eq_true rfl), (by rw [hR]; exact Nat.le_of_ble_eq_true rfl)⟩) rfl (Nat.le_of_ble_eq_true rfl) ⟨(by rw [hR]; exact Nat.le_of_ble_eq_true rfl), (by rw [hR]; exact Nat.le_of_ble_eq_true rfl)⟩ (fun z13 M12 => ?_)
        refine xv_if_eq (t := 76) hY dX12_takesSpan_66 (by decide) rfl ?_ ?_
        · refine xv_iconst hY dX12_takesSpan_76 rfl ?_
          exact xv_iretz hY hfl dX12_takesSpan_77 hret (Nat.le_of_ble_eq_true rfl) (Nat.le_of_ble_eq_true rfl)
        · refine xv_aload_n rfl rfl hY dX12_takesSpan_69 rfl ?_
          refine xv_callVI (ci := 12) (y := yX12_takesNumber) (ws := wsX12_takesNumber) (rm := rm_X12_takesNumber) (mc := 0) (ms := 0) (n := 0) (av := []) hY dX12_takesSpan_70 rfl rfl rfl (by decide) (fun q hq => by rw [hfl]; exact S_X12_takesNumber Y.1.2.1 a0 M12 q hq) (cwV 0 hY.2.2.2.2.1 gX12_takesSpan_X12_takesNumber rfl rfl rfl (by decide +kernel) ⟨(by rw [hR]; exact Nat.le_of_ble_eq_true rfl), (by rw [hR]; exact Nat.le_of_ble_eq_true rfl)⟩) rfl (Nat.le_of_ble_eq_true rfl) ⟨(by rw [hR]; exact Nat.le_of_ble_eq_true rfl), (by rw [hR]; exact Nat.le_of_ble_eq_true rfl)⟩ (fun z15 M14 => ?_)
          refine xv_if_ne (t := 78) hY dX12_takesSpan_73 (by decide) rfl ?_ ?_
          · refine xv_aload_n rfl rfl hY dX12_takesSpan_78 rfl ?_
            refine xv_aload_n rfl rfl hY dX12_takesSpan_79 rfl ?_
            refine xv_getI (ci := 12) (j := 8) hY dX12_takesSpan_80 rfl rfl rfl (by decide) hin12 (by decide) rfl (List.mem_of_getElem? (i := 1) rfl) (fun v16 => ?_)
            refine xv_putI (ci := 12) (j := 10) hY dX12_takesSpan_83 rfl rfl rfl (by decide) hin12 (by decide) rfl (List.mem_of_getElem? (i := 4) rfl) tyX12_ok nmX12 (Or.inl rfl) rfl (fun M17 => ?_)
            refine xv_aload_n rfl rfl hY dX12_takesSpan_86 rfl ?_
            refine xv_bipush (by decide) hY dX12_takesSpan_87 rfl ?_
            refine xv_callVI (ci := 12) (y := yX12_takes) (ws := wsX12_takes) (rm := rm_X12_takes) (mc := 0) (ms := 0) (n := 1) (av := [xi (41 : Int)]) hY dX12_takesSpan_89 rfl rfl rfl (by decide) (fun q hq => by rw [hfl]; exact S_X12_takes Y.1.2.1 a0 (41 : Int) M17 q hq) (cwV 1 hY.2.2.2.2.1 gX12_takesSpan_X12_takes rfl rfl rfl (by decide +kernel) ⟨(by rw [hR]; exact Nat.le_of_ble_eq_true rfl), (by rw [hR]; exact Nat.le_of_ble_eq_true rfl)⟩) rfl (Nat.le_of_ble_eq_true rfl) ⟨(by rw [hR]; exact Nat.le_of_ble_eq_true rfl), (by rw [hR]; exact Nat.le_of_ble_eq_true rfl)⟩ (fun z19 M18 => ?_)
            refine xv_istore_n (L' := [some (xr a0), none, some (xi z19)]) hY dX12_takesSpan_92 rfl rfl (by rw [hnL]; decide) rfl rfl ?_
            refine xv_aload_n rfl rfl hY dX12_takesSpan_93 rfl ?_
            refine xv_iload_n rfl rfl hY dX12_takesSpan_94 rfl ?_
            refine xv_join (α := Nat × Int) 111 (fun x20 => [some (xr a0), none, some (xi z19)]) (fun x20 => [xi x20.2, xr x20.1]) (fun x20 => M18) (fun x20 => ?_) (fun j21 hj21 => ?_)
            · refine xv_putI (ci := 12) (j := 12) hY dX12_takesSpan_111 rfl rfl rfl (by decide) hin12 (by decide) rfl (List.mem_of_getElem? (i := 5) rfl) tyX12_ok nmX12 (Or.inl rfl) rfl (fun M22 => ?_)
              refine xv_iload_n rfl rfl hY dX12_takesSpan_114 rfl ?_
              refine xv_if_ne (t := 127) hY dX12_takesSpan_115 (by decide) rfl ?_ ?_
              · refine xv_iconst hY dX12_takesSpan_127 rfl ?_
                refine xv_goto (pc' := 132) hY dX12_takesSpan_128 (by decide) ?_
                exact xv_iretz hY hfl dX12_takesSpan_132 hret (Nat.le_of_ble_eq_true rfl) (Nat.le_of_ble_eq_true rfl)
              · refine xv_aload_n rfl rfl hY dX12_takesSpan_118 rfl ?_
                refine xv_bipush (by decide) hY dX12_takesSpan_119 rfl ?_
                refine xv_callVI (ci := 12) (y := yX12_takes) (ws := wsX12_takes) (rm := rm_X12_takes) (mc := 0) (ms := 0) (n := 1) (av := [xi (93 : Int)]) hY dX12_takesSpan_121 rfl rfl rfl (by decide) (fun q hq => by rw [hfl]; exact S_X12_takes Y.1.2.1 a0 (93 : Int) M22 q hq) (cwV 1 hY.2.2.2.2.1 gX12_takesSpan_X12_takes rfl rfl rfl (by decide +kernel) ⟨(by rw [hR]; exact Nat.le_of_ble_eq_true rfl), (by rw [hR]; exact Nat.le_of_ble_eq_true rfl)⟩) rfl (Nat.le_of_ble_eq_true rfl) ⟨(by rw [hR]; exact Nat.le_of_ble_eq_true rfl), (by rw [hR]; exact Nat.le_of_ble_eq_true rfl)⟩ (fun z24 M23 => ?_)
                refine xv_if_eq (t := 131) hY dX12_takesSpan_124 (by decide) rfl ?_ ?_
                · refine xv_iconst hY dX12_takesSpan_131 rfl ?_
                  exact xv_iretz hY hfl dX12_takesSpan_132 hret (Nat.le_of_ble_eq_true rfl) (Nat.le_of_ble_eq_true rfl)
                · refine xv_iconst hY dX12_takesSpan_127 rfl ?_
                  refine xv_goto (pc' := 132) hY dX12_takesSpan_128 (by decide) ?_
                  exact xv_iretz hY hfl dX12_takesSpan_132 hret (Nat.le_of_ble_eq_true rfl) (Nat.le_of_ble_eq_true rfl)
            · refine xv_if_eq (t := 107) hY dX12_takesSpan_95 (by decide) rfl ?_ ?_
              · refine xv_aload_n rfl rfl hY dX12_takesSpan_107 rfl ?_
                refine xv_getI (ci := 12) (j := 10) hY dX12_takesSpan_108 rfl rfl rfl (by decide) hin12 (by decide) rfl (List.mem_of_getElem? (i := 4) rfl) (fun v25 => ?_)
                exact xv_mk (L' := [some (xr a0), none, some (xi z19)]) [true, false, true] rfl (hj21 (a0, v25))
              · refine xv_aload_n rfl rfl hY dX12_takesSpan_98 rfl ?_
                refine xv_getI (ci := 12) (j := 10) hY dX12_takesSpan_99 rfl rfl rfl (by decide) hin12 (by decide) rfl (List.mem_of_getElem? (i := 4) rfl) (fun v26 => ?_)
                refine xv_iconst hY dX12_takesSpan_102 rfl ?_
                refine xv_isub hY dX12_takesSpan_103 rfl ?_
                refine xv_goto (pc' := 111) hY dX12_takesSpan_104 (by decide) ?_
                exact xv_mk (L' := [some (xr a0), none, some (xi z19)]) [true, false, true] rfl (hj21 (a0, (v26 - (1 : Int))))
          · refine xv_iconst hY dX12_takesSpan_76 rfl ?_
            exact xv_iretz hY hfl dX12_takesSpan_77 hret (Nat.le_of_ble_eq_true rfl) (Nat.le_of_ble_eq_true rfl)
      · refine xv_if_eq (t := 53) hY dX12_takesSpan_41 (by decide) rfl ?_ ?_
        · refine xv_aload_n rfl rfl hY dX12_takesSpan_53 rfl ?_
          refine xv_getI (ci := 12) (j := 9) hY dX12_takesSpan_54 rfl rfl rfl (by decide) hin12 (by decide) rfl (List.mem_of_getElem? (i := 2) rfl) (fun v27 => ?_)
          exact xv_mk (L' := [some (xr a0), none, none]) [true, false, false] rfl (hj10 (a0, v27))
        · refine xv_aload_n rfl rfl hY dX12_takesSpan_44 rfl ?_
          refine xv_getI (ci := 12) (j := 9) hY dX12_takesSpan_45 rfl rfl rfl (by decide) hin12 (by decide) rfl (List.mem_of_getElem? (i := 2) rfl) (fun v28 => ?_)
          refine xv_iconst hY dX12_takesSpan_48 rfl ?_
          refine xv_iadd hY dX12_takesSpan_49 rfl ?_
          refine xv_goto (pc' := 57) hY dX12_takesSpan_50 (by decide) ?_
          exact xv_mk (L' := [some (xr a0), none, none]) [true, false, false] rfl (hj10 (a0, (v28 + (1 : Int))))
    · refine xv_iconst hY dX12_takesSpan_29 rfl ?_
      exact xv_iretz hY hfl dX12_takesSpan_30 hret (Nat.le_of_ble_eq_true rfl) (Nat.le_of_ble_eq_true rfl)
  · refine xv_if_ne (t := 22) hY dX12_takesSpan_8 (by decide) rfl ?_ ?_
    · exact xv_mk (L' := [some (xr a0), some (xi z2), none]) [true, true, false] rfl (hj4 M1)
    · refine xv_aload_n rfl rfl hY dX12_takesSpan_11 rfl ?_
      refine xv_bipush (by decide) hY dX12_takesSpan_12 rfl ?_
      refine xv_callVI (ci := 12) (y := yX12_takes) (ws := wsX12_takes) (rm := rm_X12_takes) (mc := 0) (ms := 0) (n := 1) (av := [xi (91 : Int)]) hY dX12_takesSpan_14 rfl rfl rfl (by decide) (fun q hq => by rw [hfl]; exact S_X12_takes Y.1.2.1 a0 (91 : Int) M1 q hq) (cwV 1 hY.2.2.2.2.1 gX12_takesSpan_X12_takes rfl rfl rfl (by decide +kernel) ⟨(by rw [hR]; exact Nat.le_of_ble_eq_true rfl), (by rw [hR]; exact Nat.le_of_ble_eq_true rfl)⟩) rfl (Nat.le_of_ble_eq_true rfl) ⟨(by rw [hR]; exact Nat.le_of_ble_eq_true rfl), (by rw [hR]; exact Nat.le_of_ble_eq_true rfl)⟩ (fun z30 M29 => ?_)
      refine xv_if_ne (t := 22) hY dX12_takesSpan_17 (by decide) rfl ?_ ?_
      · exact xv_mk (L' := [some (xr a0), some (xi z2), none]) [true, true, false] rfl (hj4 M29)
      · refine xv_iconst hY dX12_takesSpan_20 rfl ?_
        exact xv_iretz hY hfl dX12_takesSpan_21 hret (Nat.le_of_ble_eq_true rfl) (Nat.le_of_ble_eq_true rfl)
