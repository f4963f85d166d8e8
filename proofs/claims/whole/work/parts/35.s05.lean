set_option maxHeartbeats 4000000 in
set_option maxRecDepth 100000 in
theorem S_X11_readSpans (l : Launch) (a0 : Nat) (M : xv_M) (q : Int × xv_M) (h : D_X11_readSpans a0 M = some q) : xv_Met l yX11_readSpans wsX11_readSpans rm_X11_readSpans 0 0 false [xr a0] M (xv_qI false q) := by
  refine xv_enter (cc := cX11_readSpans) (nL := 3) (ret := (some .int)) rfl (by decide +kernel) (Nat.le_of_ble_eq_true rfl) h ?_
  intro Y hY0 hl hR hnL hfl hret hnm0
  have hY : xv_ok Y cX11_readSpans wsX11_readSpans RX11 := hY0
  have hin2 : ∀ w ∈ u_ws RX2 TX2 3, w ∈ wsX11_readSpans := fun _ h => List.mem_cons_of_mem _ (List.mem_append_left _ (List.mem_append_left _ (List.mem_append_left _ (List.mem_append_left _ (List.mem_append_left _ (List.mem_append_left _ (List.mem_append_left _ (List.mem_append_left _ (List.mem_append_left _ (List.mem_append_left _ (List.mem_append_right _ h)))))))))))
  have hin4 : ∀ w ∈ u_ws RX4 TX4 6, w ∈ wsX11_readSpans := fun _ h => List.mem_cons_of_mem _ (List.mem_append_left _ (List.mem_append_left _ (List.mem_append_left _ (List.mem_append_left _ (List.mem_append_left _ (List.mem_append_left _ (List.mem_append_left _ (List.mem_append_right _ h))))))))
  have hin5 : ∀ w ∈ u_ws RX5 TX5 8, w ∈ wsX11_readSpans := fun _ h => List.mem_cons_of_mem _ (List.mem_append_left _ (List.mem_append_left _ (List.mem_append_left _ (List.mem_append_left _ (List.mem_append_left _ (List.mem_append_left _ (List.mem_append_left _ (List.mem_append_left _ (List.mem_append_right _ h)))))))))
  have hin6 : ∀ w ∈ u_ws RX6 TX6 4, w ∈ wsX11_readSpans := fun _ h => List.mem_cons_of_mem _ (List.mem_append_left _ (List.mem_append_left _ (List.mem_append_left _ (List.mem_append_left _ (List.mem_append_left _ (List.mem_append_left _ (List.mem_append_left _ (List.mem_append_left _ (List.mem_append_left _ (List.mem_append_right _ h))))))))))
  have hin11 : ∀ w ∈ u_ws RX11 TX11 6, w ∈ wsX11_readSpans := fun _ h => List.mem_cons_of_mem _ (List.mem_append_left _ (List.mem_append_left _ (List.mem_append_left _ (List.mem_append_left _ (List.mem_append_left _ (List.mem_append_left _ (List.mem_append_left _ (List.mem_append_left _ (List.mem_append_left _ (List.mem_append_left _ (List.mem_append_left _ (List.mem_append_right _ h))))))))))))
  unfold D_X11_readSpans
  refine xv_mk (L' := [some (xr a0), none, none]) [true, true, true] rfl ?_
  refine xv_aload_n rfl rfl hY dX11_readSpans_0 rfl ?_
  refine xv_getP (ci := 11) (j := 4) hY dX11_readSpans_1 rfl rfl rfl (by decide) hin11 (by decide) rfl (List.mem_of_getElem? (i := 1) rfl) (fun v1 => ?_)
  refine xv_aload_n rfl rfl hY dX11_readSpans_4 rfl ?_
  refine xv_getP (ci := 11) (j := 3) hY dX11_readSpans_5 rfl rfl rfl (by decide) hin11 (by decide) rfl (List.mem_of_getElem? (i := 2) rfl) (fun v2 => ?_)
  refine xv_callVI (ci := 4) (y := yX4_readRow) (ws := wsX4_readRow) (rm := rm_X4_readRow) (mc := 0) (ms := 0) (n := 1) (av := [xr v2]) hY dX11_readSpans_8 rfl rfl rfl (by decide) (fun q hq => by rw [hfl]; exact S_X4_readRow Y.1.2.1 v1 v2 M q hq) (cwV 1 hY.2.2.2.2.1 gX11_readSpans_X4_readRow rfl rfl rfl (by decide +kernel) ⟨(by rw [hR]; exact Nat.le_of_ble_eq_true rfl), (by rw [hR]; exact Nat.le_of_ble_eq_true rfl)⟩) rfl (Nat.le_of_ble_eq_true rfl) ⟨(by rw [hR]; exact Nat.le_of_ble_eq_true rfl), (by rw [hR]; exact Nat.le_of_ble_eq_true rfl)⟩ (fun z4 M3 => ?_)
  refine xv_istore_n (L' := [some (xr a0), some (xi z4), none]) hY dX11_readSpans_11 rfl rfl (by rw [hnL]; decide) rfl rfl ?_
  refine xv_iload_n rfl rfl hY dX11_readSpans_12 rfl ?_
  refine xv_iconst hY dX11_readSpans_13 rfl ?_
  refine xv_icmp_eq (t := 22) hY dX11_readSpans_14 (by decide) rfl ?_ ?_
  · refine xv_aload_n rfl rfl hY dX11_readSpans_22 rfl ?_
    refine xv_getP (ci := 11) (j := 4) hY dX11_readSpans_23 rfl rfl rfl (by decide) hin11 (by decide) rfl (List.mem_of_getElem? (i := 1) rfl) (fun v5 => ?_)
    refine xv_callVI (ci := 4) (y := yX4_allAreSpans) (ws := wsX4_allAreSpans) (rm := rm_X4_allAreSpans) (mc := 0) (ms := 0) (n := 0) (av := []) hY dX11_readSpans_26 rfl rfl rfl (by decide) (fun q hq => by rw [hfl]; exact S_X4_allAreSpans Y.1.2.1 v5 M3 q hq) (cwV 0 hY.2.2.2.2.1 gX11_readSpans_X4_allAreSpans rfl rfl rfl (by decide +kernel) ⟨(by rw [hR]; exact Nat.le_of_ble_eq_true rfl), (by rw [hR]; exact Nat.le_of_ble_eq_true rfl)⟩) rfl (Nat.le_of_ble_eq_true rfl) ⟨(by rw [hR]; exact Nat.le_of_ble_eq_true rfl), (by rw [hR]; exact Nat.le_of_ble_eq_true rfl)⟩ (fun z7 M6 => ?_)
    refine xv_if_ne (t := 35) hY dX11_readSpans_29 (by decide) rfl ?_ ?_
    · refine xv_aload_n rfl rfl hY dX11_readSpans_35 rfl ?_
      refine xv_getP (ci := 11) (j := 0) hY dX11_readSpans_36 rfl rfl rfl (by decide) hin11 (by decide) rfl (List.mem_of_getElem? (i := 3) rfl) (fun v8 => ?_)
      refine xv_getP (ci := 2) (j := 0) hY dX11_readSpans_39 rfl rfl rfl (by decide) hin2 (by decide) rfl (List.mem_of_getElem? (i := 4) rfl) (fun v9 => ?_)
      refine xv_getP (ci := 6) (j := 1) hY dX11_readSpans_42 rfl rfl rfl (by decide) hin6 (by decide) rfl (List.mem_of_getElem? (i := 5) rfl) (fun v10 => ?_)
      refine xv_getI (ci := 5) (j := 0) hY dX11_readSpans_45 rfl rfl rfl (by decide) hin5 (by decide) rfl (List.mem_of_getElem? (i := 6) rfl) (fun v11 => ?_)
      refine xv_aload_n rfl rfl hY dX11_readSpans_48 rfl ?_
      refine xv_getP (ci := 11) (j := 4) hY dX11_readSpans_49 rfl rfl rfl (by decide) hin11 (by decide) rfl (List.mem_of_getElem? (i := 1) rfl) (fun v12 => ?_)
      refine xv_getI (ci := 4) (j := 0) hY dX11_readSpans_52 rfl rfl rfl (by decide) hin4 (by decide) rfl (List.mem_of_getElem? (i := 7) rfl) (fun v13 => ?_)
      refine xv_iadd hY dX11_readSpans_55 rfl ?_
      refine xv_bipush (by decide) hY dX11_readSpans_56 rfl ?_
      refine xv_icmp_le (t := 64) hY dX11_readSpans_58 (by decide) rfl ?_ ?_
      · refine xv_aload_n rfl rfl hY dX11_readSpans_64 rfl ?_
        refine xv_getP (ci := 11) (j := 1) hY dX11_readSpans_65 rfl rfl rfl (by decide) hin11 (by decide) rfl (List.mem_of_getElem? (i := 8) rfl) (fun v14 => ?_)
        refine xv_aload_n rfl rfl hY dX11_readSpans_68 rfl ?_
        refine xv_getP (ci := 11) (j := 0) hY dX11_readSpans_69 rfl rfl rfl (by decide) hin11 (by decide) rfl (List.mem_of_getElem? (i := 3) rfl) (fun v15 => ?_)
        refine xv_getP (ci := 2) (j := 0) hY dX11_readSpans_72 rfl rfl rfl (by decide) hin2 (by decide) rfl (List.mem_of_getElem? (i := 4) rfl) (fun v16 => ?_)
        refine xv_callVV (ci := 1) (y := yX1_record) (ws := wsX1_record) (rm := rm_X1_record) (mc := 0) (ms := 0) (n := 1) (av := [xr v16]) hY dX11_readSpans_75 rfl rfl rfl (by decide) (fun q hq => by rw [hfl]; exact S_X1_record Y.1.2.1 v14 v16 M6 q hq) (cwV 1 hY.2.2.2.2.1 gX11_readSpans_X1_record rfl rfl rfl (by decide +kernel) ⟨(by rw [hR]; exact Nat.le_of_ble_eq_true rfl), (by rw [hR]; exact Nat.le_of_ble_eq_true rfl)⟩) rfl (Nat.le_of_ble_eq_true rfl) ⟨(by rw [hR]; exact Nat.le_of_ble_eq_true rfl), (by rw [hR]; exact Nat.le_of_ble_eq_true rfl)⟩ (fun _ M17 => ?_)
        refine xv_iconst hY dX11_readSpans_78 rfl ?_
        refine xv_istore_n (L' := [some (xr a0), some (xi z4), some (xi (0 : Int))]) hY dX11_readSpans_79 rfl rfl (by rw [hnL]; decide) rfl rfl ?_
        refine xv_mk (L' := [some (xr a0), none, some (xi (0 : Int))]) [true, false, true] rfl ?_
        refine xv_loop (σ := Int × xv_M) (fun x18 => [some (xr a0), none, some (xi x18.1)]) (fun x18 => x18.2) (fun f19 hf19 x18 => ?_) xv_fuel ((0 : Int), M17)
        refine xv_iload_n rfl rfl hY dX11_readSpans_80 rfl ?_
        refine xv_aload_n rfl rfl hY dX11_readSpans_81 rfl ?_
        refine xv_getP (ci := 11) (j := 4) hY dX11_readSpans_82 rfl rfl rfl (by decide) hin11 (by decide) rfl (List.mem_of_getElem? (i := 1) rfl) (fun v20 => ?_)
        refine xv_getI (ci := 4) (j := 0) hY dX11_readSpans_85 rfl rfl rfl (by decide) hin4 (by decide) rfl (List.mem_of_getElem? (i := 7) rfl) (fun v21 => ?_)
        refine xv_icmp_ge (t := 141) hY dX11_readSpans_88 (by decide) rfl ?_ ?_
        · refine xv_aload_n rfl rfl hY dX11_readSpans_141 rfl ?_
          refine xv_getP (ci := 11) (j := 4) hY dX11_readSpans_142 rfl rfl rfl (by decide) hin11 (by decide) rfl (List.mem_of_getElem? (i := 1) rfl) (fun v22 => ?_)
          refine xv_getI (ci := 4) (j := 0) hY dX11_readSpans_145 rfl rfl rfl (by decide) hin4 (by decide) rfl (List.mem_of_getElem? (i := 7) rfl) (fun v23 => ?_)
          exact xv_ireti hY hfl dX11_readSpans_148 hret (Nat.le_of_ble_eq_true rfl) (Nat.le_of_ble_eq_true rfl)
        · refine xv_aload_n rfl rfl hY dX11_readSpans_91 rfl ?_
          refine xv_getP (ci := 11) (j := 0) hY dX11_readSpans_92 rfl rfl rfl (by decide) hin11 (by decide) rfl (List.mem_of_getElem? (i := 3) rfl) (fun v24 => ?_)
          refine xv_aload_n rfl rfl hY dX11_readSpans_95 rfl ?_
          refine xv_getP (ci := 11) (j := 4) hY dX11_readSpans_96 rfl rfl rfl (by decide) hin11 (by decide) rfl (List.mem_of_getElem? (i := 1) rfl) (fun v25 => ?_)
          refine xv_getP (ci := 4) (j := 1) hY dX11_readSpans_99 rfl rfl rfl (by decide) hin4 (by decide) rfl (List.mem_of_getElem? (i := 9) rfl) (fun v26 => ?_)
          refine xv_iload_n rfl rfl hY dX11_readSpans_102 rfl ?_
          refine xv_iald hY dX11_readSpans_103 rfl (fun v27 => ?_)
          refine xv_aload_n rfl rfl hY dX11_readSpans_104 rfl ?_
          refine xv_getP (ci := 11) (j := 4) hY dX11_readSpans_105 rfl rfl rfl (by decide) hin11 (by decide) rfl (List.mem_of_getElem? (i := 1) rfl) (fun v28 => ?_)
          refine xv_getP (ci := 4) (j := 2) hY dX11_readSpans_108 rfl rfl rfl (by decide) hin4 (by decide) rfl (List.mem_of_getElem? (i := 10) rfl) (fun v29 => ?_)
          refine xv_iload_n rfl rfl hY dX11_readSpans_111 rfl ?_
          refine xv_iald hY dX11_readSpans_112 rfl (fun v30 => ?_)
          refine xv_aload_n rfl rfl hY dX11_readSpans_113 rfl ?_
          refine xv_getP (ci := 11) (j := 4) hY dX11_readSpans_114 rfl rfl rfl (by decide) hin11 (by decide) rfl (List.mem_of_getElem? (i := 1) rfl) (fun v31 => ?_)
          refine xv_getP (ci := 4) (j := 3) hY dX11_readSpans_117 rfl rfl rfl (by decide) hin4 (by decide) rfl (List.mem_of_getElem? (i := 11) rfl) (fun v32 => ?_)
          refine xv_iload_n rfl rfl hY dX11_readSpans_120 rfl ?_
          refine xv_zald hY dX11_readSpans_121 rfl (fun v33 => ?_)
          refine xv_aload_n rfl rfl hY dX11_readSpans_122 rfl ?_
          refine xv_getP (ci := 11) (j := 4) hY dX11_readSpans_123 rfl rfl rfl (by decide) hin11 (by decide) rfl (List.mem_of_getElem? (i := 1) rfl) (fun v34 => ?_)
          refine xv_getP (ci := 4) (j := 4) hY dX11_readSpans_126 rfl rfl rfl (by decide) hin4 (by decide) rfl (List.mem_of_getElem? (i := 12) rfl) (fun v35 => ?_)
          refine xv_iload_n rfl rfl hY dX11_readSpans_129 rfl ?_
          refine xv_zald hY dX11_readSpans_130 rfl (fun v36 => ?_)
          refine xv_callVI (ci := 2) (y := yX2_addSpan) (ws := wsX2_addSpan) (rm := rm_X2_addSpan) (mc := 0) (ms := 0) (n := 4) (av := [xi v27, xi v30, xi v33, xi v36]) hY dX11_readSpans_131 rfl rfl rfl (by decide) (fun q hq => by rw [hfl]; exact S_X2_addSpan Y.1.2.1 v24 v27 v30 v33 v36 x18.2 q hq) (cwV 4 hY.2.2.2.2.1 gX11_readSpans_X2_addSpan rfl rfl rfl (by decide +kernel) ⟨(by rw [hR]; exact Nat.le_of_ble_eq_true rfl), (by rw [hR]; exact Nat.le_of_ble_eq_true rfl)⟩) rfl (Nat.le_of_ble_eq_true rfl) ⟨(by rw [hR]; exact Nat.le_of_ble_eq_true rfl), (by rw [hR]; exact Nat.le_of_ble_eq_true rfl)⟩ (fun z38 M37 => ?_)
          refine xv_pop hY dX11_readSpans_134 rfl ?_
          refine xv_iinc (L' := [some (xr a0), none, some (xi (x18.1 + 1))]) hY dX11_readSpans_135 rfl (by rw [hnL]; decide) rfl rfl rfl ?_
          refine xv_goto (pc' := 80) hY dX11_readSpans_138 (by decide) ?_
          exact xv_mk (L' := [some (xr a0), none, some (xi (x18.1 + 1))]) [true, false, true] rfl (hf19 ((x18.1 + 1), M37))
      · refine xv_bipush (by decide) hY dX11_readSpans_61 rfl ?_
        exact xv_ireti hY hfl dX11_readSpans_63 hret (Nat.le_of_ble_eq_true rfl) (Nat.le_of_ble_eq_true rfl)
    · refine xv_bipush (by decide) hY dX11_readSpans_32 rfl ?_
      exact xv_ireti hY hfl dX11_readSpans_34 hret (Nat.le_of_ble_eq_true rfl) (Nat.le_of_ble_eq_true rfl)
  · refine xv_bipush (by decide) hY dX11_readSpans_17 rfl ?_
    refine xv_iload_n rfl rfl hY dX11_readSpans_19 rfl ?_
    refine xv_isub hY dX11_readSpans_20 rfl ?_
    exact xv_ireti hY hfl dX11_readSpans_21 hret (Nat.le_of_ble_eq_true rfl) (Nat.le_of_ble_eq_true rfl)
set_option maxHeartbeats 4000000 in
set_option maxRecDepth 100000 in
theorem S_X11_remove (l : Launch) (a0 : Nat) (a1 : Int) (M : xv_M) (q : Int × xv_M) (h : D_X11_remove a0 a1 M = some q) : xv_Met l yX11_remove wsX11_remove rm_X11_remove 0 0 false [xr a0, xi a1] M (xv_qI false q) := by
  refine xv_enter (cc := cX11_remove) (nL := 2) (ret := (some .int)) rfl (by decide +kernel) (Nat.le_of_ble_eq_true rfl) h ?_
  intro Y hY0 hl hR hnL hfl hret hnm0
  have hY : xv_ok Y cX11_remove wsX11_remove RX11 := hY0
  have hin2 : ∀ w ∈ u_ws RX2 TX2 3, w ∈ wsX11_remove := fun _ h => List.mem_cons_of_mem _ (List.mem_append_left _ (List.mem_append_left _ (List.mem_append_left _ (List.mem_append_left _ (List.mem_append_left _ (List.mem_append_left _ (List.mem_append_left _ (List.mem_append_left _ (List.mem_append_right _ h)))))))))
  have hin6 : ∀ w ∈ u_ws RX6 TX6 4, w ∈ wsX11_remove := fun _ h => List.mem_cons_of_mem _ (List.mem_append_left _ (List.mem_append_left _ (List.mem_append_left _ (List.mem_append_left _ (List.mem_append_left _ (List.mem_append_left _ (List.mem_append_left _ (List.mem_append_right _ h))))))))
  have hin11 : ∀ w ∈ u_ws RX11 TX11 6, w ∈ wsX11_remove := fun _ h => List.mem_cons_of_mem _ (List.mem_append_left _ (List.mem_append_left _ (List.mem_append_left _ (List.mem_append_left _ (List.mem_append_left _ (List.mem_append_left _ (List.mem_append_left _ (List.mem_append_left _ (List.mem_append_left _ (List.mem_append_right _ h))))))))))
  unfold D_X11_remove
  refine xv_mk (L' := [some (xr a0), some (xi a1)]) [true, true] rfl ?_
  refine xv_aload_n rfl rfl hY dX11_remove_0 rfl ?_
  refine xv_getP (ci := 11) (j := 0) hY dX11_remove_1 rfl rfl rfl (by decide) hin11 (by decide) rfl (List.mem_of_getElem? (i := 1) rfl) (fun v1 => ?_)
  refine xv_getP (ci := 2) (j := 0) hY dX11_remove_4 rfl rfl rfl (by decide) hin2 (by decide) rfl (List.mem_of_getElem? (i := 2) rfl) (fun v2 => ?_)
  refine xv_getP (ci := 6) (j := 1) hY dX11_remove_7 rfl rfl rfl (by decide) hin6 (by decide) rfl (List.mem_of_getElem? (i := 3) rfl) (fun v3 => ?_)
  refine xv_iload_n rfl rfl hY dX11_remove_10 rfl ?_
  refine xv_callVI (ci := 5) (y := yX5_has) (ws := wsX5_has) (rm := rm_X5_has) (mc := 0) (ms := 0) (n := 1) (av := [xi a1]) hY dX11_remove_11 rfl rfl rfl (by decide) (fun q hq => by rw [hfl]; exact S_X5_has Y.1.2.1 v3 a1 M q hq) (cwV 1 hY.2.2.2.2.1 gX11_remove_X5_has rfl rfl rfl (by decide +kernel) ⟨(by rw [hR]; exact Nat.le_of_ble_eq_true rfl), (by rw [hR]; exact Nat.le_of_ble_eq_true rfl)⟩) rfl (Nat.le_of_ble_eq_true rfl) ⟨(by rw [hR]; exact Nat.le_of_ble_eq_true rfl), (by rw [hR]; exact Nat.le_of_ble_eq_true rfl)⟩ (fun z5 M4 => ?_)
  refine xv_if_ne (t := 19) hY dX11_remove_14 (by decide) rfl ?_ ?_
  · refine xv_aload_n rfl rfl hY dX11_remove_19 rfl ?_
    refine xv_getP (ci := 11) (j := 1) hY dX11_remove_20 rfl rfl rfl (by decide) hin11 (by decide) rfl (List.mem_of_getElem? (i := 4) rfl) (fun v6 => ?_)
    refine xv_aload_n rfl rfl hY dX11_remove_23 rfl ?_
    refine xv_getP (ci := 11) (j := 0) hY dX11_remove_24 rfl rfl rfl (by decide) hin11 (by decide) rfl (List.mem_of_getElem? (i := 1) rfl) (fun v7 => ?_)
    refine xv_getP (ci := 2) (j := 0) hY dX11_remove_27 rfl rfl rfl (by decide) hin2 (by decide) rfl (List.mem_of_getElem? (i := 2) rfl) (fun v8 => ?_)
    refine xv_callVV (ci := 1) (y := yX1_record) (ws := wsX1_record) (rm := rm_X1_record) (mc := 0) (ms := 0) (n := 1) (av := [xr v8]) hY dX11_remove_30 rfl rfl rfl (by decide) (fun q hq => by rw [hfl]; exact S_X1_record Y.1.2.1 v6 v8 M4 q hq) (cwV 1 hY.2.2.2.2.1 gX11_remove_X1_record rfl rfl rfl (by decide +kernel) ⟨(by rw [hR]; exact Nat.le_of_ble_eq_true rfl), (by rw [hR]; exact Nat.le_of_ble_eq_true rfl)⟩) rfl (Nat.le_of_ble_eq_true rfl) ⟨(by rw [hR]; exact Nat.le_of_ble_eq_true rfl), (by rw [hR]; exact Nat.le_of_ble_eq_true rfl)⟩ (fun _ M9 => ?_)
    refine xv_aload_n rfl rfl hY dX11_remove_33 rfl ?_
    refine xv_getP (ci := 11) (j := 0) hY dX11_remove_34 rfl rfl rfl (by decide) hin11 (by decide) rfl (List.mem_of_getElem? (i := 1) rfl) (fun v10 => ?_)
    refine xv_iload_n rfl rfl hY dX11_remove_37 rfl ?_
    refine xv_callVI (ci := 2) (y := yX2_removeSpan) (ws := wsX2_removeSpan) (rm := rm_X2_removeSpan) (mc := 0) (ms := 0) (n := 1) (av := [xi a1]) hY dX11_remove_38 rfl rfl rfl (by decide) (fun q hq => by rw [hfl]; exact S_X2_removeSpan Y.1.2.1 v10 a1 M9 q hq) (cwV 1 hY.2.2.2.2.1 gX11_remove_X2_removeSpan rfl rfl rfl (by decide +kernel) ⟨(by rw [hR]; exact Nat.le_of_ble_eq_true rfl), (by rw [hR]; exact Nat.le_of_ble_eq_true rfl)⟩) rfl (Nat.le_of_ble_eq_true rfl) ⟨(by rw [hR]; exact Nat.le_of_ble_eq_true rfl), (by rw [hR]; exact Nat.le_of_ble_eq_true rfl)⟩ (fun z12 M11 => ?_)
    exact xv_ireti hY hfl dX11_remove_41 hret (Nat.le_of_ble_eq_true rfl) (Nat.le_of_ble_eq_true rfl)
  · refine xv_iconst hY dX11_remove_17 rfl ?_
    exact xv_ireti hY hfl dX11_remove_18 hret (Nat.le_of_ble_eq_true rfl) (Nat.le_of_ble_eq_true rfl)
set_option maxHeartbeats 4000000 in
set_option maxRecDepth 100000 in
theorem S_X11_move (l : Launch) (a0 : Nat) (a1 : Int) (a2 : Int) (M : xv_M) (q : Int × xv_M) (h : D_X11_move a0 a1 a2 M = some q) : xv_Met l yX11_move wsX11_move rm_X11_move 0 0 false [xr a0, xi a1, xi a2] M (xv_qI false q) := by
  refine xv_enter (cc := cX11_move) (nL := 4) (ret := (some .int)) rfl (by decide +kernel) (Nat.le_of_ble_eq_true rfl) h ?_
  intro Y hY0 hl hR hnL hfl hret hnm0
  have hY : xv_ok Y cX11_move wsX11_move RX11 := hY0
  have hin2 : ∀ w ∈ u_ws RX2 TX2 3, w ∈ wsX11_move := fun _ h => List.mem_cons_of_mem _ (List.mem_append_left _ (List.mem_append_left _ (List.mem_append_left _ (List.mem_append_left _ (List.mem_append_left _ (List.mem_append_left _ (List.mem_append_left _ (List.mem_append_left _ (List.mem_append_right _ h)))))))))
  have hin5 : ∀ w ∈ u_ws RX5 TX5 8, w ∈ wsX11_move := fun _ h => List.mem_cons_of_mem _ (List.mem_append_left _ (List.mem_append_left _ (List.mem_append_left _ (List.mem_append_left _ (List.mem_append_left _ (List.mem_append_left _ (List.mem_append_right _ h)))))))
  have hin6 : ∀ w ∈ u_ws RX6 TX6 4, w ∈ wsX11_move := fun _ h => List.mem_cons_of_mem _ (List.mem_append_left _ (List.mem_append_left _ (List.mem_append_left _ (List.mem_append_left _ (List.mem_append_left _ (List.mem_append_left _ (List.mem_append_left _ (List.mem_append_right _ h))))))))
  have hin11 : ∀ w ∈ u_ws RX11 TX11 6, w ∈ wsX11_move := fun _ h => List.mem_cons_of_mem _ (List.mem_append_left _ (List.mem_append_left _ (List.mem_append_left _ (List.mem_append_left _ (List.mem_append_left _ (List.mem_append_left _ (List.mem_append_left _ (List.mem_append_left _ (List.mem_append_left _ (List.mem_append_right _ h))))))))))
  unfold D_X11_move
  refine xv_mk (L' := [some (xr a0), some (xi a1), some (xi a2), none]) [true, true, true, true] rfl ?_
  refine xv_aload_n rfl rfl hY dX11_move_0 rfl ?_
  refine xv_getP (ci := 11) (j := 0) hY dX11_move_1 rfl rfl rfl (by decide) hin11 (by decide) rfl (List.mem_of_getElem? (i := 1) rfl) (fun v1 => ?_)
  refine xv_getP (ci := 2) (j := 0) hY dX11_move_4 rfl rfl rfl (by decide) hin2 (by decide) rfl (List.mem_of_getElem? (i := 2) rfl) (fun v2 => ?_)
  refine xv_getP (ci := 6) (j := 1) hY dX11_move_7 rfl rfl rfl (by decide) hin6 (by decide) rfl (List.mem_of_getElem? (i := 3) rfl) (fun v3 => ?_)
  refine xv_astore_n (L' := [some (xr a0), some (xi a1), some (xi a2), some (xr v3)]) hY dX11_move_10 rfl rfl (by rw [hnL]; decide) rfl rfl ?_
  refine xv_aload_n rfl rfl hY dX11_move_11 rfl ?_
  refine xv_iload_n rfl rfl hY dX11_move_12 rfl ?_
  refine xv_callVI (ci := 5) (y := yX5_has) (ws := wsX5_has) (rm := rm_X5_has) (mc := 0) (ms := 0) (n := 1) (av := [xi a1]) hY dX11_move_13 rfl rfl rfl (by decide) (fun q hq => by rw [hfl]; exact S_X5_has Y.1.2.1 v3 a1 M q hq) (cwV 1 hY.2.2.2.2.1 gX11_move_X5_has rfl rfl rfl (by decide +kernel) ⟨(by rw [hR]; exact Nat.le_of_ble_eq_true rfl), (by rw [hR]; exact Nat.le_of_ble_eq_true rfl)⟩) rfl (Nat.le_of_ble_eq_true rfl) ⟨(by rw [hR]; exact Nat.le_of_ble_eq_true rfl), (by rw [hR]; exact Nat.le_of_ble_eq_true rfl)⟩ (fun z5 M4 => ?_)
  refine xv_if_ne (t := 21) hY dX11_move_16 (by decide) rfl ?_ ?_
  · refine xv_iload_n rfl rfl hY dX11_move_21 rfl ?_
    refine xv_sipush (by decide) hY dX11_move_22 rfl ?_
    refine xv_icmp_lt (t := 39) hY dX11_move_25 (by decide) rfl ?_ ?_
    · refine xv_bipush (by decide) hY dX11_move_39 rfl ?_
      exact xv_ireti hY hfl dX11_move_41 hret (Nat.le_of_ble_eq_true rfl) (Nat.le_of_ble_eq_true rfl)
    · refine xv_iload_n rfl rfl hY dX11_move_28 rfl ?_
      refine xv_sipush (by decide) hY dX11_move_29 rfl ?_
      refine xv_icmp_gt (t := 39) hY dX11_move_32 (by decide) rfl ?_ ?_
      · refine xv_bipush (by decide) hY dX11_move_39 rfl ?_
        exact xv_ireti hY hfl dX11_move_41 hret (Nat.le_of_ble_eq_true rfl) (Nat.le_of_ble_eq_true rfl)
      · refine xv_iload_n rfl rfl hY dX11_move_35 rfl ?_
        refine xv_if_ne (t := 42) hY dX11_move_36 (by decide) rfl ?_ ?_
        · refine xv_aload_n rfl rfl hY dX11_move_42 rfl ?_
          refine xv_getP (ci := 5) (j := 2) hY dX11_move_43 rfl rfl rfl (by decide) hin5 (by decide) rfl (List.mem_of_getElem? (i := 4) rfl) (fun v6 => ?_)
          refine xv_iload_n rfl rfl hY dX11_move_46 rfl ?_
          refine xv_iald hY dX11_move_47 rfl (fun v7 => ?_)
          refine xv_iload_n rfl rfl hY dX11_move_48 rfl ?_
          refine xv_iadd hY dX11_move_49 rfl ?_
          refine xv_callSI (y := yX11_isPlace) (ws := wsX11_isPlace) (rm := rm_X11_isPlace) (mc := 0) (ms := 0) (n := 1) (av := [xi (v7 + a2)]) hY dX11_move_50 rfl rfl (fun q hq => by rw [hfl]; exact S_X11_isPlace Y.1.2.1 (v7 + a2) M4 q hq) (va_cwS 1 hY.2.2.2.2.1 gX11_move_X11_isPlace rfl rfl rfl (by decide +kernel) ⟨(by rw [hR]; exact Nat.le_of_ble_eq_true rfl), (by rw [hR]; exact Nat.le_of_ble_eq_true rfl)⟩) rfl (Nat.le_of_ble_eq_true rfl) ⟨(by rw [hR]; exact Nat.le_of_ble_eq_true rfl), (by rw [hR]; exact Nat.le_of_ble_eq_true rfl)⟩ (fun z9 M8 => ?_)
          refine xv_if_eq (t := 70) hY dX11_move_53 (by decide) rfl ?_ ?_
          · refine xv_bipush (by decide) hY dX11_move_70 rfl ?_
            exact xv_ireti hY hfl dX11_move_72 hret (Nat.le_of_ble_eq_true rfl) (Nat.le_of_ble_eq_true rfl)
          · refine xv_aload_n rfl rfl hY dX11_move_56 rfl ?_
            refine xv_getP (ci := 5) (j := 3) hY dX11_move_57 rfl rfl rfl (by decide) hin5 (by decide) rfl (List.mem_of_getElem? (i := 5) rfl) (fun v10 => ?_)
            refine xv_iload_n rfl rfl hY dX11_move_60 rfl ?_
            refine xv_iald hY dX11_move_61 rfl (fun v11 => ?_)
            refine xv_iload_n rfl rfl hY dX11_move_62 rfl ?_
            refine xv_iadd hY dX11_move_63 rfl ?_
            refine xv_callSI (y := yX11_isPlace) (ws := wsX11_isPlace) (rm := rm_X11_isPlace) (mc := 0) (ms := 0) (n := 1) (av := [xi (v11 + a2)]) hY dX11_move_64 rfl rfl (fun q hq => by rw [hfl]; exact S_X11_isPlace Y.1.2.1 (v11 + a2) M8 q hq) (va_cwS 1 hY.2.2.2.2.1 gX11_move_X11_isPlace rfl rfl rfl (by decide +kernel) ⟨(by rw [hR]; exact Nat.le_of_ble_eq_true rfl), (by rw [hR]; exact Nat.le_of_ble_eq_true rfl)⟩) rfl (Nat.le_of_ble_eq_true rfl) ⟨(by rw [hR]; exact Nat.le_of_ble_eq_true rfl), (by rw [hR]; exact Nat.le_of_ble_eq_true rfl)⟩ (fun z13 M12 => ?_)
            refine xv_if_ne (t := 73) hY dX11_move_67 (by decide) rfl ?_ ?_
            · refine xv_aload_n rfl rfl hY dX11_move_73 rfl ?_
              refine xv_getP (ci := 11) (j := 1) hY dX11_move_74 rfl rfl rfl (by decide) hin11 (by decide) rfl (List.mem_of_getElem? (i := 6) rfl) (fun v14 => ?_)
              refine xv_aload_n rfl rfl hY dX11_move_77 rfl ?_
              refine xv_getP (ci := 11) (j := 0) hY dX11_move_78 rfl rfl rfl (by decide) hin11 (by decide) rfl (List.mem_of_getElem? (i := 1) rfl) (fun v15 => ?_)
              refine xv_getP (ci := 2) (j := 0) hY dX11_move_81 rfl rfl rfl (by decide) hin2 (by decide) rfl (List.mem_of_getElem? (i := 2) rfl) (fun v16 => ?_)
              refine xv_callVV (ci := 1) (y := yX1_record) (ws := wsX1_record) (rm := rm_X1_record) (mc := 0) (ms := 0) (n := 1) (av := [xr v16]) hY dX11_move_84 rfl rfl rfl (by decide) (fun q hq => by rw [hfl]; exact S_X1_record Y.1.2.1 v14 v16 M12 q hq) (cwV 1 hY.2.2.2.2.1 gX11_move_X1_record rfl rfl rfl (by decide +kernel) ⟨(by rw [hR]; exact Nat.le_of_ble_eq_true rfl), (by rw [hR]; exact Nat.le_of_ble_eq_true rfl)⟩) rfl (Nat.le_of_ble_eq_true rfl) ⟨(by rw [hR]; exact Nat.le_of_ble_eq_true rfl), (by rw [hR]; exact Nat.le_of_ble_eq_true rfl)⟩ (fun _ M17 => ?_)
              refine xv_aload_n rfl rfl hY dX11_move_87 rfl ?_
              refine xv_getP (ci := 11) (j := 0) hY dX11_move_88 rfl rfl rfl (by decide) hin11 (by decide) rfl (List.mem_of_getElem? (i := 1) rfl) (fun v18 => ?_)
              refine xv_iload_n rfl rfl hY dX11_move_91 rfl ?_
              refine xv_iload_n rfl rfl hY dX11_move_92 rfl ?_
              refine xv_callVI (ci := 2) (y := yX2_moveSpan) (ws := wsX2_moveSpan) (rm := rm_X2_moveSpan) (mc := 0) (ms := 0) (n := 2) (av := [xi a1, xi a2]) hY dX11_move_93 rfl rfl rfl (by decide) (fun q hq => by rw [hfl]; exact S_X2_moveSpan Y.1.2.1 v18 a1 a2 M17 q hq) (cwV 2 hY.2.2.2.2.1 gX11_move_X2_moveSpan rfl rfl rfl (by decide +kernel) ⟨(by rw [hR]; exact Nat.le_of_ble_eq_true rfl), (by rw [hR]; exact Nat.le_of_ble_eq_true rfl)⟩) rfl (Nat.le_of_ble_eq_true rfl) ⟨(by rw [hR]; exact Nat.le_of_ble_eq_true rfl), (by rw [hR]; exact Nat.le_of_ble_eq_true rfl)⟩ (fun z20 M19 => ?_)
              exact xv_ireti hY hfl dX11_move_96 hret (Nat.le_of_ble_eq_true rfl) (Nat.le_of_ble_eq_true rfl)
            · refine xv_bipush (by decide) hY dX11_move_70 rfl ?_
              exact xv_ireti hY hfl dX11_move_72 hret (Nat.le_of_ble_eq_true rfl) (Nat.le_of_ble_eq_true rfl)
        · refine xv_bipush (by decide) hY dX11_move_39 rfl ?_
          exact xv_ireti hY hfl dX11_move_41 hret (Nat.le_of_ble_eq_true rfl) (Nat.le_of_ble_eq_true rfl)
  · refine xv_iconst hY dX11_move_19 rfl ?_
    exact xv_ireti hY hfl dX11_move_20 hret (Nat.le_of_ble_eq_true rfl) (Nat.le_of_ble_eq_true rfl)
set_option maxHeartbeats 4000000 in
set_option maxRecDepth 100000 in
theorem S_X11_isSpeed (l : Launch) (a0 : Int) (M : xv_M) (q : Int × xv_M) (h : D_X11_isSpeed a0 M = some q) : xv_Met l yX11_isSpeed wsX11_isSpeed rm_X11_isSpeed 0 0 false [xi a0] M (xv_qI false q) := by
  refine xv_enter (cc := cX11_isSpeed) (nL := 1) (ret := (some .boolean)) rfl (by decide +kernel) (Nat.le_of_ble_eq_true rfl) h ?_
  intro Y hY0 hl hR hnL hfl hret hnm0
  have hY : xv_ok Y cX11_isSpeed wsX11_isSpeed RX11 := hY0
  unfold D_X11_isSpeed
  refine xv_mk (L' := [some (xi a0)]) [true] rfl ?_
  refine xv_iload_n rfl rfl hY dX11_isSpeed_0 rfl ?_
  refine xv_bipush (by decide) hY dX11_isSpeed_1 rfl ?_
  refine xv_icmp_lt (t := 16) hY dX11_isSpeed_3 (by decide) rfl ?_ ?_
  · refine xv_iconst hY dX11_isSpeed_16 rfl ?_
    exact xv_iretz hY hfl dX11_isSpeed_17 hret (Nat.le_of_ble_eq_true rfl) (Nat.le_of_ble_eq_true rfl)
  · refine xv_iload_n rfl rfl hY dX11_isSpeed_6 rfl ?_
    refine xv_bipush (by decide) hY dX11_isSpeed_7 rfl ?_
    refine xv_icmp_gt (t := 16) hY dX11_isSpeed_9 (by decide) rfl ?_ ?_
    · refine xv_iconst hY dX11_isSpeed_16 rfl ?_
      exact xv_iretz hY hfl dX11_isSpeed_17 hret (Nat.le_of_ble_eq_true rfl) (Nat.le_of_ble_eq_true rfl)
    · refine xv_iconst hY dX11_isSpeed_12 rfl ?_
      refine xv_goto (pc' := 17) hY dX11_isSpeed_13 (by decide) ?_
      exact xv_iretz hY hfl dX11_isSpeed_17 hret (Nat.le_of_ble_eq_true rfl) (Nat.le_of_ble_eq_true rfl)
set_option maxHeartbeats 4000000 in
set_option maxRecDepth 100000 in
theorem S_X11_come (l : Launch) (a0 : Nat) (a1 : Int) (a2 : Int) (M : xv_M) (q : Int × xv_M) (h : D_X11_come a0 a1 a2 M = some q) : xv_Met l yX11_come wsX11_come rm_X11_come 0 0 false [xr a0, xi a1, xi a2] M (xv_qI false q) := by
  refine xv_enter (cc := cX11_come) (nL := 3) (ret := (some .int)) rfl (by decide +kernel) (Nat.le_of_ble_eq_true rfl) h ?_
  intro Y hY0 hl hR hnL hfl hret hnm0
  have hY : xv_ok Y cX11_come wsX11_come RX11 := hY0
  have hin2 : ∀ w ∈ u_ws RX2 TX2 3, w ∈ wsX11_come := fun _ h => List.mem_cons_of_mem _ (List.mem_append_left _ (List.mem_append_left _ (List.mem_append_left _ (List.mem_append_left _ (List.mem_append_left _ (List.mem_append_left _ (List.mem_append_right _ h)))))))
  have hin6 : ∀ w ∈ u_ws RX6 TX6 4, w ∈ wsX11_come := fun _ h => List.mem_cons_of_mem _ (List.mem_append_left _ (List.mem_append_left _ (List.mem_append_left _ (List.mem_append_left _ (List.mem_append_left _ (List.mem_append_right _ h))))))
  have hin9 : ∀ w ∈ u_ws RX9 TX9 9, w ∈ wsX11_come := fun _ h => List.mem_cons_of_mem _ (List.mem_append_left _ (List.mem_append_left _ (List.mem_append_left _ (List.mem_append_left _ (List.mem_append_right _ h)))))
  have hin11 : ∀ w ∈ u_ws RX11 TX11 6, w ∈ wsX11_come := fun _ h => List.mem_cons_of_mem _ (List.mem_append_left _ (List.mem_append_left _ (List.mem_append_left _ (List.mem_append_left _ (List.mem_append_left _ (List.mem_append_left _ (List.mem_append_left _ (List.mem_append_right _ h))))))))
  unfold D_X11_come
  refine xv_mk (L' := [some (xr a0), some (xi a1), some (xi a2)]) [true, true, true] rfl ?_
  refine xv_iload_n rfl rfl hY dX11_come_0 rfl ?_
  refine xv_callSI (y := yX11_isPlace) (ws := wsX11_isPlace) (rm := rm_X11_isPlace) (mc := 0) (ms := 0) (n := 1) (av := [xi a1]) hY dX11_come_1 rfl rfl (fun q hq => by rw [hfl]; exact S_X11_isPlace Y.1.2.1 a1 M q hq) (va_cwS 1 hY.2.2.2.2.1 gX11_come_X11_isPlace rfl rfl rfl (by decide +kernel) ⟨(by rw [hR]; exact Nat.le_of_ble_eq_true rfl), (by rw [hR]; exact Nat.le_of_ble_eq_true rfl)⟩) rfl (Nat.le_of_ble_eq_true rfl) ⟨(by rw [hR]; exact Nat.le_of_ble_eq_true rfl), (by rw [hR]; exact Nat.le_of_ble_eq_true rfl)⟩ (fun z2 M1 => ?_)
  refine xv_if_eq (t := 14) hY dX11_come_4 (by decide) rfl ?_ ?_
  · refine xv_bipush (by decide) hY dX11_come_14 rfl ?_
    exact xv_ireti hY hfl dX11_come_16 hret (Nat.le_of_ble_eq_true rfl) (Nat.le_of_ble_eq_true rfl)
  · refine xv_iload_n rfl rfl hY dX11_come_7 rfl ?_
    refine xv_callSI (y := yX11_isSpeed) (ws := wsX11_isSpeed) (rm := rm_X11_isSpeed) (mc := 0) (ms := 0) (n := 1) (av := [xi a2]) hY dX11_come_8 rfl rfl (fun q hq => by rw [hfl]; exact S_X11_isSpeed Y.1.2.1 a2 M1 q hq) (va_cwS 1 hY.2.2.2.2.1 gX11_come_X11_isSpeed rfl rfl rfl (by decide +kernel) ⟨(by rw [hR]; exact Nat.le_of_ble_eq_true rfl), (by rw [hR]; exact Nat.le_of_ble_eq_true rfl)⟩) rfl (Nat.le_of_ble_eq_true rfl) ⟨(by rw [hR]; exact Nat.le_of_ble_eq_true rfl), (by rw [hR]; exact Nat.le_of_ble_eq_true rfl)⟩ (fun z4 M3 => ?_)
    refine xv_if_ne (t := 17) hY dX11_come_11 (by decide) rfl ?_ ?_
    · refine xv_aload_n rfl rfl hY dX11_come_17 rfl ?_
      refine xv_getP (ci := 11) (j := 0) hY dX11_come_18 rfl rfl rfl (by decide) hin11 (by decide) rfl (List.mem_of_getElem? (i := 1) rfl) (fun v5 => ?_)
      refine xv_getP (ci := 2) (j := 0) hY dX11_come_21 rfl rfl rfl (by decide) hin2 (by decide) rfl (List.mem_of_getElem? (i := 2) rfl) (fun v6 => ?_)
      refine xv_getP (ci := 6) (j := 2) hY dX11_come_24 rfl rfl rfl (by decide) hin6 (by decide) rfl (List.mem_of_getElem? (i := 3) rfl) (fun v7 => ?_)
      refine xv_getI (ci := 9) (j := 0) hY dX11_come_27 rfl rfl rfl (by decide) hin9 (by decide) rfl (List.mem_of_getElem? (i := 4) rfl) (fun v8 => ?_)
      refine xv_bipush (by decide) hY dX11_come_30 rfl ?_
      refine xv_icmp_lt (t := 38) hY dX11_come_32 (by decide) rfl ?_ ?_
      · refine xv_aload_n rfl rfl hY dX11_come_38 rfl ?_
        refine xv_getP (ci := 11) (j := 1) hY dX11_come_39 rfl rfl rfl (by decide) hin11 (by decide) rfl (List.mem_of_getElem? (i := 5) rfl) (fun v9 => ?_)
        refine xv_aload_n rfl rfl hY dX11_come_42 rfl ?_
        refine xv_getP (ci := 11) (j := 0) hY dX11_come_43 rfl rfl rfl (by decide) hin11 (by decide) rfl (List.mem_of_getElem? (i := 1) rfl) (fun v10 => ?_)
        refine xv_getP (ci := 2) (j := 0) hY dX11_come_46 rfl rfl rfl (by decide) hin2 (by decide) rfl (List.mem_of_getElem? (i := 2) rfl) (fun v11 => ?_)
        refine xv_callVV (ci := 1) (y := yX1_record) (ws := wsX1_record) (rm := rm_X1_record) (mc := 0) (ms := 0) (n := 1) (av := [xr v11]) hY dX11_come_49 rfl rfl rfl (by decide) (fun q hq => by rw [hfl]; exact S_X1_record Y.1.2.1 v9 v11 M3 q hq) (cwV 1 hY.2.2.2.2.1 gX11_come_X1_record rfl rfl rfl (by decide +kernel) ⟨(by rw [hR]; exact Nat.le_of_ble_eq_true rfl), (by rw [hR]; exact Nat.le_of_ble_eq_true rfl)⟩) rfl (Nat.le_of_ble_eq_true rfl) ⟨(by rw [hR]; exact Nat.le_of_ble_eq_true rfl), (by rw [hR]; exact Nat.le_of_ble_eq_true rfl)⟩ (fun _ M12 => ?_)
        refine xv_aload_n rfl rfl hY dX11_come_52 rfl ?_
        refine xv_getP (ci := 11) (j := 0) hY dX11_come_53 rfl rfl rfl (by decide) hin11 (by decide) rfl (List.mem_of_getElem? (i := 1) rfl) (fun v13 => ?_)
        refine xv_iload_n rfl rfl hY dX11_come_56 rfl ?_
        refine xv_iload_n rfl rfl hY dX11_come_57 rfl ?_
        refine xv_callVI (ci := 2) (y := yX2_addWalker) (ws := wsX2_addWalker) (rm := rm_X2_addWalker) (mc := 0) (ms := 0) (n := 2) (av := [xi a1, xi a2]) hY dX11_come_58 rfl rfl rfl (by decide) (fun q hq => by rw [hfl]; exact S_X2_addWalker Y.1.2.1 v13 a1 a2 M12 q hq) (cwV 2 hY.2.2.2.2.1 gX11_come_X2_addWalker rfl rfl rfl (by decide +kernel) ⟨(by rw [hR]; exact Nat.le_of_ble_eq_true rfl), (by rw [hR]; exact Nat.le_of_ble_eq_true rfl)⟩) rfl (Nat.le_of_ble_eq_true rfl) ⟨(by rw [hR]; exact Nat.le_of_ble_eq_true rfl), (by rw [hR]; exact Nat.le_of_ble_eq_true rfl)⟩ (fun z15 M14 => ?_)
        exact xv_ireti hY hfl dX11_come_61 hret (Nat.le_of_ble_eq_true rfl) (Nat.le_of_ble_eq_true rfl)
      · refine xv_bipush (by decide) hY dX11_come_35 rfl ?_
        exact xv_ireti hY hfl dX11_come_37 hret (Nat.le_of_ble_eq_true rfl) (Nat.le_of_ble_eq_true rfl)
    · refine xv_bipush (by decide) hY dX11_come_14 rfl ?_
      exact xv_ireti hY hfl dX11_come_16 hret (Nat.le_of_ble_eq_true rfl) (Nat.le_of_ble_eq_true rfl)
set_option maxHeartbeats 4000000 in
set_option maxRecDepth 100000 in
theorem S_X11_put (l : Launch) (a0 : Nat) (a1 : Int) (a2 : Int) (M : xv_M) (q : Int × xv_M) (h : D_X11_put a0 a1 a2 M = some q) : xv_Met l yX11_put wsX11_put rm_X11_put 0 0 false [xr a0, xi a1, xi a2] M (xv_qI false q) := by
  refine xv_enter (cc := cX11_put) (nL := 4) (ret := (some .int)) rfl (by decide +kernel) (Nat.le_of_ble_eq_true rfl) h ?_
  intro Y hY0 hl hR hnL hfl hret hnm0
  have hY : xv_ok Y cX11_put wsX11_put RX11 := hY0
  have hin2 : ∀ w ∈ u_ws RX2 TX2 3, w ∈ wsX11_put := fun _ h => List.mem_cons_of_mem _ (List.mem_append_left _ (List.mem_append_left _ (List.mem_append_left _ (List.mem_append_left _ (List.mem_append_left _ (List.mem_append_left _ (List.mem_append_right _ h)))))))
  have hin6 : ∀ w ∈ u_ws RX6 TX6 4, w ∈ wsX11_put := fun _ h => List.mem_cons_of_mem _ (List.mem_append_left _ (List.mem_append_left _ (List.mem_append_left _ (List.mem_append_left _ (List.mem_append_left _ (List.mem_append_right _ h))))))
  have hin9 : ∀ w ∈ u_ws RX9 TX9 9, w ∈ wsX11_put := fun _ h => List.mem_cons_of_mem _ (List.mem_append_left _ (List.mem_append_left _ (List.mem_append_left _ (List.mem_append_left _ (List.mem_append_right _ h)))))
  have hin11 : ∀ w ∈ u_ws RX11 TX11 6, w ∈ wsX11_put := fun _ h => List.mem_cons_of_mem _ (List.mem_append_left _ (List.mem_append_left _ (List.mem_append_left _ (List.mem_append_left _ (List.mem_append_left _ (List.mem_append_left _ (List.mem_append_left _ (List.mem_append_right _ h))))))))
  unfold D_X11_put
  refine xv_mk (L' := [some (xr a0), some (xi a1), some (xi a2), none]) [true, true, true, true] rfl ?_
  refine xv_aload_n rfl rfl hY dX11_put_0 rfl ?_
  refine xv_getP (ci := 11) (j := 0) hY dX11_put_1 rfl rfl rfl (by decide) hin11 (by decide) rfl (List.mem_of_getElem? (i := 1) rfl) (fun v1 => ?_)
  refine xv_getP (ci := 2) (j := 0) hY dX11_put_4 rfl rfl rfl (by decide) hin2 (by decide) rfl (List.mem_of_getElem? (i := 2) rfl) (fun v2 => ?_)
  refine xv_getP (ci := 6) (j := 2) hY dX11_put_7 rfl rfl rfl (by decide) hin6 (by decide) rfl (List.mem_of_getElem? (i := 3) rfl) (fun v3 => ?_)
  refine xv_astore_n (L' := [some (xr a0), some (xi a1), some (xi a2), some (xr v3)]) hY dX11_put_10 rfl rfl (by rw [hnL]; decide) rfl rfl ?_
  refine xv_aload_n rfl rfl hY dX11_put_11 rfl ?_
  refine xv_iload_n rfl rfl hY dX11_put_12 rfl ?_
  refine xv_callVI (ci := 9) (y := yX9_has) (ws := wsX9_has) (rm := rm_X9_has) (mc := 0) (ms := 0) (n := 1) (av := [xi a1]) hY dX11_put_13 rfl rfl rfl (by decide) (fun q hq => by rw [hfl]; exact S_X9_has Y.1.2.1 v3 a1 M q hq) (cwV 1 hY.2.2.2.2.1 gX11_put_X9_has rfl rfl rfl (by decide +kernel) ⟨(by rw [hR]; exact Nat.le_of_ble_eq_true rfl), (by rw [hR]; exact Nat.le_of_ble_eq_true rfl)⟩) rfl (Nat.le_of_ble_eq_true rfl) ⟨(by rw [hR]; exact Nat.le_of_ble_eq_true rfl), (by rw [hR]; exact Nat.le_of_ble_eq_true rfl)⟩ (fun z5 M4 => ?_)
  refine xv_if_ne (t := 21) hY dX11_put_16 (by decide) rfl ?_ ?_
  · refine xv_iload_n rfl rfl hY dX11_put_21 rfl ?_
    refine xv_callSI (y := yX11_isPlace) (ws := wsX11_isPlace) (rm := rm_X11_isPlace) (mc := 0) (ms := 0) (n := 1) (av := [xi a2]) hY dX11_put_22 rfl rfl (fun q hq => by rw [hfl]; exact S_X11_isPlace Y.1.2.1 a2 M4 q hq) (va_cwS 1 hY.2.2.2.2.1 gX11_put_X11_isPlace rfl rfl rfl (by decide +kernel) ⟨(by rw [hR]; exact Nat.le_of_ble_eq_true rfl), (by rw [hR]; exact Nat.le_of_ble_eq_true rfl)⟩) rfl (Nat.le_of_ble_eq_true rfl) ⟨(by rw [hR]; exact Nat.le_of_ble_eq_true rfl), (by rw [hR]; exact Nat.le_of_ble_eq_true rfl)⟩ (fun z7 M6 => ?_)
    refine xv_if_ne (t := 31) hY dX11_put_25 (by decide) rfl ?_ ?_
    · refine xv_aload_n rfl rfl hY dX11_put_31 rfl ?_
      refine xv_getP (ci := 9) (j := 1) hY dX11_put_32 rfl rfl rfl (by decide) hin9 (by decide) rfl (List.mem_of_getElem? (i := 4) rfl) (fun v8 => ?_)
      refine xv_iload_n rfl rfl hY dX11_put_35 rfl ?_
      refine xv_iald hY dX11_put_36 rfl (fun v9 => ?_)
      refine xv_iload_n rfl rfl hY dX11_put_37 rfl ?_
      refine xv_icmp_ne (t := 44) hY dX11_put_38 (by decide) rfl ?_ ?_
      · refine xv_aload_n rfl rfl hY dX11_put_44 rfl ?_
        refine xv_getP (ci := 11) (j := 1) hY dX11_put_45 rfl rfl rfl (by decide) hin11 (by decide) rfl (List.mem_of_getElem? (i := 5) rfl) (fun v10 => ?_)
        refine xv_aload_n rfl rfl hY dX11_put_48 rfl ?_
        refine xv_getP (ci := 11) (j := 0) hY dX11_put_49 rfl rfl rfl (by decide) hin11 (by decide) rfl (List.mem_of_getElem? (i := 1) rfl) (fun v11 => ?_)
        refine xv_getP (ci := 2) (j := 0) hY dX11_put_52 rfl rfl rfl (by decide) hin2 (by decide) rfl (List.mem_of_getElem? (i := 2) rfl) (fun v12 => ?_)
        refine xv_callVV (ci := 1) (y := yX1_record) (ws := wsX1_record) (rm := rm_X1_record) (mc := 0) (ms := 0) (n := 1) (av := [xr v12]) hY dX11_put_55 rfl rfl rfl (by decide) (fun q hq => by rw [hfl]; exact S_X1_record Y.1.2.1 v10 v12 M6 q hq) (cwV 1 hY.2.2.2.2.1 gX11_put_X1_record rfl rfl rfl (by decide +kernel) ⟨(by rw [hR]; exact Nat.le_of_ble_eq_true rfl), (by rw [hR]; exact Nat.le_of_ble_eq_true rfl)⟩) rfl (Nat.le_of_ble_eq_true rfl) ⟨(by rw [hR]; exact Nat.le_of_ble_eq_true rfl), (by rw [hR]; exact Nat.le_of_ble_eq_true rfl)⟩ (fun _ M13 => ?_)
        refine xv_aload_n rfl rfl hY dX11_put_58 rfl ?_
        refine xv_getP (ci := 11) (j := 0) hY dX11_put_59 rfl rfl rfl (by decide) hin11 (by decide) rfl (List.mem_of_getElem? (i := 1) rfl) (fun v14 => ?_)
        refine xv_iload_n rfl rfl hY dX11_put_62 rfl ?_
        refine xv_iload_n rfl rfl hY dX11_put_63 rfl ?_
        refine xv_callVI (ci := 2) (y := yX2_putWalker) (ws := wsX2_putWalker) (rm := rm_X2_putWalker) (mc := 0) (ms := 0) (n := 2) (av := [xi a1, xi a2]) hY dX11_put_64 rfl rfl rfl (by decide) (fun q hq => by rw [hfl]; exact S_X2_putWalker Y.1.2.1 v14 a1 a2 M13 q hq) (cwV 2 hY.2.2.2.2.1 gX11_put_X2_putWalker rfl rfl rfl (by decide +kernel) ⟨(by rw [hR]; exact Nat.le_of_ble_eq_true rfl), (by rw [hR]; exact Nat.le_of_ble_eq_true rfl)⟩) rfl (Nat.le_of_ble_eq_true rfl) ⟨(by rw [hR]; exact Nat.le_of_ble_eq_true rfl), (by rw [hR]; exact Nat.le_of_ble_eq_true rfl)⟩ (fun z16 M15 => ?_)
        exact xv_ireti hY hfl dX11_put_67 hret (Nat.le_of_ble_eq_true rfl) (Nat.le_of_ble_eq_true rfl)
      · refine xv_bipush (by decide) hY dX11_put_41 rfl ?_
        exact xv_ireti hY hfl dX11_put_43 hret (Nat.le_of_ble_eq_true rfl) (Nat.le_of_ble_eq_true rfl)
    · refine xv_bipush (by decide) hY dX11_put_28 rfl ?_
      exact xv_ireti hY hfl dX11_put_30 hret (Nat.le_of_ble_eq_true rfl) (Nat.le_of_ble_eq_true rfl)
  · refine xv_iconst hY dX11_put_19 rfl ?_
    exact xv_ireti hY hfl dX11_put_20 hret (Nat.le_of_ble_eq_true rfl) (Nat.le_of_ble_eq_true rfl)
set_option maxHeartbeats 4000000 in
set_option maxRecDepth 100000 in
theorem S_X11_speed (l : Launch) (a0 : Nat) (a1 : Int) (a2 : Int) (M : xv_M) (q : Int × xv_M) (h : D_X11_speed a0 a1 a2 M = some q) : xv_Met l yX11_speed wsX11_speed rm_X11_speed 0 0 false [xr a0, xi a1, xi a2] M (xv_qI false q) := by
  refine xv_enter (cc := cX11_speed) (nL := 5) (ret := (some .int)) rfl (by decide +kernel) (Nat.le_of_ble_eq_true rfl) h ?_
  intro Y hY0 hl hR hnL hfl hret hnm0
  have hY : xv_ok Y cX11_speed wsX11_speed RX11 := hY0
  have hin2 : ∀ w ∈ u_ws RX2 TX2 3, w ∈ wsX11_speed := fun _ h => List.mem_cons_of_mem _ (List.mem_append_left _ (List.mem_append_left _ (List.mem_append_left _ (List.mem_append_left _ (List.mem_append_left _ (List.mem_append_right _ h))))))
  have hin6 : ∀ w ∈ u_ws RX6 TX6 4, w ∈ wsX11_speed := fun _ h => List.mem_cons_of_mem _ (List.mem_append_left _ (List.mem_append_left _ (List.mem_append_left _ (List.mem_append_left _ (List.mem_append_right _ h)))))
  have hin9 : ∀ w ∈ u_ws RX9 TX9 9, w ∈ wsX11_speed := fun _ h => List.mem_cons_of_mem _ (List.mem_append_left _ (List.mem_append_left _ (List.mem_append_left _ (List.mem_append_right _ h))))
  have hin11 : ∀ w ∈ u_ws RX11 TX11 6, w ∈ wsX11_speed := fun _ h => List.mem_cons_of_mem _ (List.mem_append_left _ (List.mem_append_left _ (List.mem_append_left _ (List.mem_append_left _ (List.mem_append_left _ (List.mem_append_left _ (List.mem_append_right _ h)))))))
  unfold D_X11_speed
  refine xv_mk (L' := [some (xr a0), some (xi a1), some (xi a2), none, none]) [true, true, true, true, true] rfl ?_
  refine xv_aload_n rfl rfl hY dX11_speed_0 rfl ?_
  refine xv_getP (ci := 11) (j := 0) hY dX11_speed_1 rfl rfl rfl (by decide) hin11 (by decide) rfl (List.mem_of_getElem? (i := 1) rfl) (fun v1 => ?_)
  refine xv_getP (ci := 2) (j := 0) hY dX11_speed_4 rfl rfl rfl (by decide) hin2 (by decide) rfl (List.mem_of_getElem? (i := 2) rfl) (fun v2 => ?_)
  refine xv_getP (ci := 6) (j := 2) hY dX11_speed_7 rfl rfl rfl (by decide) hin6 (by decide) rfl (List.mem_of_getElem? (i := 3) rfl) (fun v3 => ?_)
  refine xv_astore_n (L' := [some (xr a0), some (xi a1), some (xi a2), some (xr v3), none]) hY dX11_speed_10 rfl rfl (by rw [hnL]; decide) rfl rfl ?_
  refine xv_aload_n rfl rfl hY dX11_speed_11 rfl ?_
  refine xv_iload_n rfl rfl hY dX11_speed_12 rfl ?_
  refine xv_callVI (ci := 9) (y := yX9_has) (ws := wsX9_has) (rm := rm_X9_has) (mc := 0) (ms := 0) (n := 1) (av := [xi a1]) hY dX11_speed_13 rfl rfl rfl (by decide) (fun q hq => by rw [hfl]; exact S_X9_has Y.1.2.1 v3 a1 M q hq) (cwV 1 hY.2.2.2.2.1 gX11_speed_X9_has rfl rfl rfl (by decide +kernel) ⟨(by rw [hR]; exact Nat.le_of_ble_eq_true rfl), (by rw [hR]; exact Nat.le_of_ble_eq_true rfl)⟩) rfl (Nat.le_of_ble_eq_true rfl) ⟨(by rw [hR]; exact Nat.le_of_ble_eq_true rfl), (by rw [hR]; exact Nat.le_of_ble_eq_true rfl)⟩ (fun z5 M4 => ?_)
  refine xv_if_ne (t := 21) hY dX11_speed_16 (by decide) rfl ?_ ?_
  · refine xv_iload_n rfl rfl hY dX11_speed_21 rfl ?_
    refine xv_callSI (y := yX11_isSpeed) (ws := wsX11_isSpeed) (rm := rm_X11_isSpeed) (mc := 0) (ms := 0) (n := 1) (av := [xi a2]) hY dX11_speed_22 rfl rfl (fun q hq => by rw [hfl]; exact S_X11_isSpeed Y.1.2.1 a2 M4 q hq) (va_cwS 1 hY.2.2.2.2.1 gX11_speed_X11_isSpeed rfl rfl rfl (by decide +kernel) ⟨(by rw [hR]; exact Nat.le_of_ble_eq_true rfl), (by rw [hR]; exact Nat.le_of_ble_eq_true rfl)⟩) rfl (Nat.le_of_ble_eq_true rfl) ⟨(by rw [hR]; exact Nat.le_of_ble_eq_true rfl), (by rw [hR]; exact Nat.le_of_ble_eq_true rfl)⟩ (fun z7 M6 => ?_)
    refine xv_if_ne (t := 31) hY dX11_speed_25 (by decide) rfl ?_ ?_
    · refine xv_aload_n rfl rfl hY dX11_speed_31 rfl ?_
      refine xv_getP (ci := 9) (j := 2) hY dX11_speed_32 rfl rfl rfl (by decide) hin9 (by decide) rfl (List.mem_of_getElem? (i := 4) rfl) (fun v8 => ?_)
      refine xv_iload_n rfl rfl hY dX11_speed_35 rfl ?_
      refine xv_iald hY dX11_speed_36 rfl (fun v9 => ?_)
      refine xv_istore (L' := [some (xr a0), some (xi a1), some (xi a2), some (xr v3), some (xi v9)]) hY dX11_speed_37 rfl (by rw [hnL]; decide) rfl rfl ?_
      refine xv_iload rfl hY dX11_speed_39 rfl ?_
      refine xv_iload_n rfl rfl hY dX11_speed_41 rfl ?_
      refine xv_icmp_ne (t := 48) hY dX11_speed_42 (by decide) rfl ?_ ?_
      · refine xv_aload_n rfl rfl hY dX11_speed_48 rfl ?_
        refine xv_getP (ci := 11) (j := 1) hY dX11_speed_49 rfl rfl rfl (by decide) hin11 (by decide) rfl (List.mem_of_getElem? (i := 5) rfl) (fun v10 => ?_)
        refine xv_aload_n rfl rfl hY dX11_speed_52 rfl ?_
        refine xv_getP (ci := 11) (j := 0) hY dX11_speed_53 rfl rfl rfl (by decide) hin11 (by decide) rfl (List.mem_of_getElem? (i := 1) rfl) (fun v11 => ?_)
        refine xv_getP (ci := 2) (j := 0) hY dX11_speed_56 rfl rfl rfl (by decide) hin2 (by decide) rfl (List.mem_of_getElem? (i := 2) rfl) (fun v12 => ?_)
        refine xv_callVV (ci := 1) (y := yX1_record) (ws := wsX1_record) (rm := rm_X1_record) (mc := 0) (ms := 0) (n := 1) (av := [xr v12]) hY dX11_speed_59 rfl rfl rfl (by decide) (fun q hq => by rw [hfl]; exact S_X1_record Y.1.2.1 v10 v12 M6 q hq) (cwV 1 hY.2.2.2.2.1 gX11_speed_X1_record rfl rfl rfl (by decide +kernel) ⟨(by rw [hR]; exact Nat.le_of_ble_eq_true rfl), (by rw [hR]; exact Nat.le_of_ble_eq_true rfl)⟩) rfl (Nat.le_of_ble_eq_true rfl) ⟨(by rw [hR]; exact Nat.le_of_ble_eq_true rfl), (by rw [hR]; exact Nat.le_of_ble_eq_true rfl)⟩ (fun _ M13 => ?_)
        refine xv_aload_n rfl rfl hY dX11_speed_62 rfl ?_
        refine xv_getP (ci := 9) (j := 2) hY dX11_speed_63 rfl rfl rfl (by decide) hin9 (by decide) rfl (List.mem_of_getElem? (i := 4) rfl) (fun v14 => ?_)
        refine xv_iload_n rfl rfl hY dX11_speed_66 rfl ?_
        refine xv_iload_n rfl rfl hY dX11_speed_67 rfl ?_
        refine xv_iast hY hfl dX11_speed_68 rfl (fun M15 => ?_)
        refine xv_sipush (by decide) hY dX11_speed_69 rfl ?_
        refine xv_iload rfl hY dX11_speed_72 rfl ?_
        refine xv_iadd hY dX11_speed_74 rfl ?_
        exact xv_ireti hY hfl dX11_speed_75 hret (Nat.le_of_ble_eq_true rfl) (Nat.le_of_ble_eq_true rfl)
      · refine xv_bipush (by decide) hY dX11_speed_45 rfl ?_
        exact xv_ireti hY hfl dX11_speed_47 hret (Nat.le_of_ble_eq_true rfl) (Nat.le_of_ble_eq_true rfl)
    · refine xv_bipush (by decide) hY dX11_speed_28 rfl ?_
      exact xv_ireti hY hfl dX11_speed_30 hret (Nat.le_of_ble_eq_true rfl) (Nat.le_of_ble_eq_true rfl)
  · refine xv_iconst hY dX11_speed_19 rfl ?_
    exact xv_ireti hY hfl dX11_speed_20 hret (Nat.le_of_ble_eq_true rfl) (Nat.le_of_ble_eq_true rfl)
set_option maxHeartbeats 4000000 in
set_option maxRecDepth 100000 in
theorem S_X11_pass (l : Launch) (a0 : Nat) (a1 : Int) (M : xv_M) (q : Int × xv_M) (h : D_X11_pass a0 a1 M = some q) : xv_Met l yX11_pass wsX11_pass rm_X11_pass 0 0 false [xr a0, xi a1] M (xv_qI false q) := by
  refine xv_enter (cc := cX11_pass) (nL := 4) (ret := (some .int)) rfl (by decide +kernel) (Nat.le_of_ble_eq_true rfl) h ?_
  intro Y hY0 hl hR hnL hfl hret hnm0
  have hY : xv_ok Y cX11_pass wsX11_pass RX11 := hY0
  have hin2 : ∀ w ∈ u_ws RX2 TX2 3, w ∈ wsX11_pass := fun _ h => List.mem_cons_of_mem _ (List.mem_append_left _ (List.mem_append_left _ (List.mem_append_left _ (List.mem_append_left _ (List.mem_append_left _ (List.mem_append_left _ (List.mem_append_right _ h)))))))
  have hin6 : ∀ w ∈ u_ws RX6 TX6 4, w ∈ wsX11_pass := fun _ h => List.mem_cons_of_mem _ (List.mem_append_left _ (List.mem_append_left _ (List.mem_append_left _ (List.mem_append_left _ (List.mem_append_left _ (List.mem_append_right _ h))))))
  have hin11 : ∀ w ∈ u_ws RX11 TX11 6, w ∈ wsX11_pass := fun _ h => List.mem_cons_of_mem _ (List.mem_append_left _ (List.mem_append_left _ (List.mem_append_left _ (List.mem_append_left _ (List.mem_append_left _ (List.mem_append_left _ (List.mem_append_left _ (List.mem_append_right _ h))))))))
  unfold D_X11_pass
  refine xv_mk (L' := [some (xr a0), some (xi a1), none, none]) [true, true, true, true] rfl ?_
  refine xv_iload_n rfl rfl hY dX11_pass_0 rfl ?_
  refine xv_iconst hY dX11_pass_1 rfl ?_
  refine xv_icmp_lt (t := 11) hY dX11_pass_2 (by decide) rfl ?_ ?_
  · refine xv_bipush (by decide) hY dX11_pass_11 rfl ?_
    exact xv_ireti hY hfl dX11_pass_13 hret (Nat.le_of_ble_eq_true rfl) (Nat.le_of_ble_eq_true rfl)
  · refine xv_iload_n rfl rfl hY dX11_pass_5 rfl ?_
    refine xv_bipush (by decide) hY dX11_pass_6 rfl ?_
    refine xv_icmp_le (t := 14) hY dX11_pass_8 (by decide) rfl ?_ ?_
    · refine xv_aload_n rfl rfl hY dX11_pass_14 rfl ?_
      refine xv_getP (ci := 11) (j := 0) hY dX11_pass_15 rfl rfl rfl (by decide) hin11 (by decide) rfl (List.mem_of_getElem? (i := 1) rfl) (fun v1 => ?_)
      refine xv_getP (ci := 2) (j := 0) hY dX11_pass_18 rfl rfl rfl (by decide) hin2 (by decide) rfl (List.mem_of_getElem? (i := 2) rfl) (fun v2 => ?_)
      refine xv_getI (ci := 6) (j := 0) hY dX11_pass_21 rfl rfl rfl (by decide) hin6 (by decide) rfl (List.mem_of_getElem? (i := 3) rfl) (fun v3 => ?_)
      refine xv_iload_n rfl rfl hY dX11_pass_24 rfl ?_
      refine xv_iadd hY dX11_pass_25 rfl ?_
      refine xv_sipush (by decide) hY dX11_pass_26 rfl ?_
      refine xv_icmp_le (t := 35) hY dX11_pass_29 (by decide) rfl ?_ ?_
      · refine xv_aload_n rfl rfl hY dX11_pass_35 rfl ?_
        refine xv_getP (ci := 11) (j := 1) hY dX11_pass_36 rfl rfl rfl (by decide) hin11 (by decide) rfl (List.mem_of_getElem? (i := 4) rfl) (fun v4 => ?_)
        refine xv_aload_n rfl rfl hY dX11_pass_39 rfl ?_
        refine xv_getP (ci := 11) (j := 0) hY dX11_pass_40 rfl rfl rfl (by decide) hin11 (by decide) rfl (List.mem_of_getElem? (i := 1) rfl) (fun v5 => ?_)
        refine xv_getP (ci := 2) (j := 0) hY dX11_pass_43 rfl rfl rfl (by decide) hin2 (by decide) rfl (List.mem_of_getElem? (i := 2) rfl) (fun v6 => ?_)
        refine xv_callVV (ci := 1) (y := yX1_record) (ws := wsX1_record) (rm := rm_X1_record) (mc := 0) (ms := 0) (n := 1) (av := [xr v6]) hY dX11_pass_46 rfl rfl rfl (by decide) (fun q hq => by rw [hfl]; exact S_X1_record Y.1.2.1 v4 v6 M q hq) (cwV 1 hY.2.2.2.2.1 gX11_pass_X1_record rfl rfl rfl (by decide +kernel) ⟨(by rw [hR]; exact Nat.le_of_ble_eq_true rfl), (by rw [hR]; exact Nat.le_of_ble_eq_true rfl)⟩) rfl (Nat.le_of_ble_eq_true rfl) ⟨(by rw [hR]; exact Nat.le_of_ble_eq_true rfl), (by rw [hR]; exact Nat.le_of_ble_eq_true rfl)⟩ (fun _ M7 => ?_)
        refine xv_iconst hY dX11_pass_49 rfl ?_
        refine xv_istore_n (L' := [some (xr a0), some (xi a1), some (xi (0 : Int)), none]) hY dX11_pass_50 rfl rfl (by rw [hnL]; decide) rfl rfl ?_
        refine xv_iconst hY dX11_pass_51 rfl ?_
        refine xv_istore_n (L' := [some (xr a0), some (xi a1), some (xi (0 : Int)), some (xi (0 : Int))]) hY dX11_pass_52 rfl rfl (by rw [hnL]; decide) rfl rfl ?_
        refine xv_mk (L' := [some (xr a0), some (xi a1), some (xi (0 : Int)), some (xi (0 : Int))]) [true, true, true, true] rfl ?_
        refine xv_loop (σ := Int × Int × xv_M) (fun x8 => [some (xr a0), some (xi a1), some (xi x8.1), some (xi x8.2.1)]) (fun x8 => x8.2.2) (fun f9 hf9 x8 => ?_) xv_fuel ((0 : Int), (0 : Int), M7)
        refine xv_iload_n rfl rfl hY dX11_pass_53 rfl ?_
        refine xv_iload_n rfl rfl hY dX11_pass_54 rfl ?_
        refine xv_icmp_ge (t := 74) hY dX11_pass_55 (by decide) rfl ?_ ?_
        · refine xv_iload_n rfl rfl hY dX11_pass_74 rfl ?_
          exact xv_ireti hY hfl dX11_pass_75 hret (Nat.le_of_ble_eq_true rfl) (Nat.le_of_ble_eq_true rfl)
        · refine xv_iload_n rfl rfl hY dX11_pass_58 rfl ?_
          refine xv_aload_n rfl rfl hY dX11_pass_59 rfl ?_
          refine xv_getP (ci := 11) (j := 0) hY dX11_pass_60 rfl rfl rfl (by decide) hin11 (by decide) rfl (List.mem_of_getElem? (i := 1) rfl) (fun v10 => ?_)
          refine xv_callVI (ci := 2) (y := yX2_passTick) (ws := wsX2_passTick) (rm := rm_X2_passTick) (mc := 0) (ms := 0) (n := 0) (av := []) hY dX11_pass_63 rfl rfl rfl (by decide) (fun q hq => by rw [hfl]; exact S_X2_passTick Y.1.2.1 v10 x8.2.2 q hq) (cwV 0 hY.2.2.2.2.1 gX11_pass_X2_passTick rfl rfl rfl (by decide +kernel) ⟨(by rw [hR]; exact Nat.le_of_ble_eq_true rfl), (by rw [hR]; exact Nat.le_of_ble_eq_true rfl)⟩) rfl (Nat.le_of_ble_eq_true rfl) ⟨(by rw [hR]; exact Nat.le_of_ble_eq_true rfl), (by rw [hR]; exact Nat.le_of_ble_eq_true rfl)⟩ (fun z12 M11 => ?_)
          refine xv_iadd hY dX11_pass_66 rfl ?_
          refine xv_istore_n (L' := [some (xr a0), some (xi a1), some (xi (x8.1 + z12)), some (xi x8.2.1)]) hY dX11_pass_67 rfl rfl (by rw [hnL]; decide) rfl rfl ?_
          refine xv_iinc (L' := [some (xr a0), some (xi a1), some (xi (x8.1 + z12)), some (xi (x8.2.1 + 1))]) hY dX11_pass_68 rfl (by rw [hnL]; decide) rfl rfl rfl ?_
          refine xv_goto (pc' := 53) hY dX11_pass_71 (by decide) ?_
          exact xv_mk (L' := [some (xr a0), some (xi a1), some (xi (x8.1 + z12)), some (xi (x8.2.1 + 1))]) [true, true, true, true] rfl (hf9 ((x8.1 + z12), (x8.2.1 + 1), M11))
      · refine xv_bipush (by decide) hY dX11_pass_32 rfl ?_
        exact xv_ireti hY hfl dX11_pass_34 hret (Nat.le_of_ble_eq_true rfl) (Nat.le_of_ble_eq_true rfl)
    · refine xv_bipush (by decide) hY dX11_pass_11 rfl ?_
      exact xv_ireti hY hfl dX11_pass_13 hret (Nat.le_of_ble_eq_true rfl) (Nat.le_of_ble_eq_true rfl)
set_option maxHeartbeats 4000000 in
set_option maxRecDepth 100000 in
theorem S_X11_type (l : Launch) (a0 : Nat) (a1 : Int) (M : xv_M) (q : Int × xv_M) (h : D_X11_type a0 a1 M = some q) : xv_Met l yX11_type wsX11_type rm_X11_type 0 0 false [xr a0, xi a1] M (xv_qI false q) := by
  refine xv_enter (cc := cX11_type) (nL := 2) (ret := (some .int)) rfl (by decide +kernel) (Nat.le_of_ble_eq_true rfl) h ?_
  intro Y hY0 hl hR hnL hfl hret hnm0
  have hY : xv_ok Y cX11_type wsX11_type RX11 := hY0
  have hin7 : ∀ w ∈ u_ws RX7 TX7 2, w ∈ wsX11_type := fun _ h => List.mem_cons_of_mem _ (List.mem_append_right _ h)
  have hin11 : ∀ w ∈ u_ws RX11 TX11 6, w ∈ wsX11_type := fun _ h => List.mem_cons_of_mem _ (List.mem_append_left _ (List.mem_append_right _ h))
  unfold D_X11_type
  refine xv_mk (L' := [some (xr a0), some (xi a1)]) [true, true] rfl ?_
  refine xv_aload_n rfl rfl hY dX11_type_0 rfl ?_
  refine xv_getP (ci := 11) (j := 3) hY dX11_type_1 rfl rfl rfl (by decide) hin11 (by decide) rfl (List.mem_of_getElem? (i := 1) rfl) (fun v1 => ?_)
  refine xv_iload_n rfl rfl hY dX11_type_4 rfl ?_
  refine xv_callVI (ci := 7) (y := yX7_append) (ws := wsX7_append) (rm := rm_X7_append) (mc := 0) (ms := 0) (n := 1) (av := [xi a1]) hY dX11_type_5 rfl rfl rfl (by decide) (fun q hq => by rw [hfl]; exact S_X7_append Y.1.2.1 v1 a1 M q hq) (cwV 1 hY.2.2.2.2.1 gX11_type_X7_append rfl rfl rfl (by decide +kernel) ⟨(by rw [hR]; exact Nat.le_of_ble_eq_true rfl), (by rw [hR]; exact Nat.le_of_ble_eq_true rfl)⟩) rfl (Nat.le_of_ble_eq_true rfl) ⟨(by rw [hR]; exact Nat.le_of_ble_eq_true rfl), (by rw [hR]; exact Nat.le_of_ble_eq_true rfl)⟩ (fun z3 M2 => ?_)
  refine xv_if_eq (t := 21) hY dX11_type_8 (by decide) rfl ?_ ?_
  · refine xv_bipush (by decide) hY dX11_type_21 rfl ?_
    exact xv_ireti hY hfl dX11_type_23 hret (Nat.le_of_ble_eq_true rfl) (Nat.le_of_ble_eq_true rfl)
  · refine xv_aload_n rfl rfl hY dX11_type_11 rfl ?_
    refine xv_getP (ci := 11) (j := 3) hY dX11_type_12 rfl rfl rfl (by decide) hin11 (by decide) rfl (List.mem_of_getElem? (i := 1) rfl) (fun v4 => ?_)
    refine xv_getI (ci := 7) (j := 0) hY dX11_type_15 rfl rfl rfl (by decide) hin7 (by decide) rfl (List.mem_of_getElem? (i := 2) rfl) (fun v5 => ?_)
    refine xv_goto (pc' := 23) hY dX11_type_18 (by decide) ?_
    exact xv_ireti hY hfl dX11_type_23 hret (Nat.le_of_ble_eq_true rfl) (Nat.le_of_ble_eq_true rfl)
set_option maxHeartbeats 4000000 in
set_option maxRecDepth 100000 in
theorem S_X11_clearText (l : Launch) (a0 : Nat) (M : xv_M) (q : Int × xv_M) (h : D_X11_clearText a0 M = some q) : xv_Met l yX11_clearText wsX11_clearText rm_X11_clearText 0 0 false [xr a0] M (xv_qI false q) := by
  refine xv_enter (cc := cX11_clearText) (nL := 2) (ret := (some .int)) rfl (by decide +kernel) (Nat.le_of_ble_eq_true rfl) h ?_
  intro Y hY0 hl hR hnL hfl hret hnm0
  have hY : xv_ok Y cX11_clearText wsX11_clearText RX11 := hY0
  have hin7 : ∀ w ∈ u_ws RX7 TX7 2, w ∈ wsX11_clearText := fun _ h => List.mem_cons_of_mem _ (List.mem_append_right _ h)
  have hin11 : ∀ w ∈ u_ws RX11 TX11 6, w ∈ wsX11_clearText := fun _ h => List.mem_cons_of_mem _ (List.mem_append_left _ (List.mem_append_right _ h))
  unfold D_X11_clearText
  refine xv_mk (L' := [some (xr a0), none]) [true, true] rfl ?_
  refine xv_aload_n rfl rfl hY dX11_clearText_0 rfl ?_
  refine xv_getP (ci := 11) (j := 3) hY dX11_clearText_1 rfl rfl rfl (by decide) hin11 (by decide) rfl (List.mem_of_getElem? (i := 1) rfl) (fun v1 => ?_)
  refine xv_getI (ci := 7) (j := 0) hY dX11_clearText_4 rfl rfl rfl (by decide) hin7 (by decide) rfl (List.mem_of_getElem? (i := 2) rfl) (fun v2 => ?_)
  refine xv_istore_n (L' := [some (xr a0), some (xi v2)]) hY dX11_clearText_7 rfl rfl (by rw [hnL]; decide) rfl rfl ?_
  refine xv_aload_n rfl rfl hY dX11_clearText_8 rfl ?_
  refine xv_getP (ci := 11) (j := 3) hY dX11_clearText_9 rfl rfl rfl (by decide) hin11 (by decide) rfl (List.mem_of_getElem? (i := 1) rfl) (fun v3 => ?_)
  refine xv_iconst hY dX11_clearText_12 rfl ?_
  refine xv_putI (ci := 7) (j := 0) hY dX11_clearText_13 rfl rfl rfl (by decide) hin7 (by decide) rfl (List.mem_of_getElem? (i := 2) rfl) tyX7_ok nmX7 (Or.inl rfl) rfl (fun M4 => ?_)
  refine xv_iload_n rfl rfl hY dX11_clearText_16 rfl ?_
  exact xv_ireti hY hfl dX11_clearText_17 hret (Nat.le_of_ble_eq_true rfl) (Nat.le_of_ble_eq_true rfl)
set_option maxHeartbeats 4000000 in
set_option maxRecDepth 100000 in
theorem S_X11_undo (l : Launch) (a0 : Nat) (M : xv_M) (q : Int × xv_M) (h : D_X11_undo a0 M = some q) : xv_Met l yX11_undo wsX11_undo rm_X11_undo 0 0 false [xr a0] M (xv_qI false q) := by
  refine xv_enter (cc := cX11_undo) (nL := 2) (ret := (some .int)) rfl (by decide +kernel) (Nat.le_of_ble_eq_true rfl) h ?_
  intro Y hY0 hl hR hnL hfl hret hnm0
  have hY : xv_ok Y cX11_undo wsX11_undo RX11 := hY0
  have hin1 : ∀ w ∈ u_ws RX1 TX1 2, w ∈ wsX11_undo := fun _ h => List.mem_cons_of_mem _ (List.mem_append_left _ (List.mem_append_left _ (List.mem_append_left _ (List.mem_append_left _ (List.mem_append_left _ (List.mem_append_left _ (List.mem_append_left _ (List.mem_append_left _ (List.mem_append_right _ h)))))))))
  have hin11 : ∀ w ∈ u_ws RX11 TX11 6, w ∈ wsX11_undo := fun _ h => List.mem_cons_of_mem _ (List.mem_append_left _ (List.mem_append_left _ (List.mem_append_left _ (List.mem_append_left _ (List.mem_append_left _ (List.mem_append_left _ (List.mem_append_left _ (List.mem_append_left _ (List.mem_append_left _ (List.mem_append_right _ h))))))))))
  unfold D_X11_undo
  refine xv_mk (L' := [some (xr a0), none]) [true, true] rfl ?_
  refine xv_aload_n rfl rfl hY dX11_undo_0 rfl ?_
  refine xv_getP (ci := 11) (j := 1) hY dX11_undo_1 rfl rfl rfl (by decide) hin11 (by decide) rfl (List.mem_of_getElem? (i := 1) rfl) (fun v1 => ?_)
  refine xv_callVP (ci := 1) (y := yX1_takeLatest) (ws := wsX1_takeLatest) (rm := rm_X1_takeLatest) (mc := 0) (ms := 0) (n := 0) (av := []) hY dX11_undo_4 rfl rfl rfl (by decide) (fun q hq => by rw [hfl]; exact S_X1_takeLatest Y.1.2.1 v1 M q hq) (cwV 0 hY.2.2.2.2.1 gX11_undo_X1_takeLatest rfl rfl rfl (by decide +kernel) ⟨(by rw [hR]; exact Nat.le_of_ble_eq_true rfl), (by rw [hR]; exact Nat.le_of_ble_eq_true rfl)⟩) rfl (Nat.le_of_ble_eq_true rfl) ⟨(by rw [hR]; exact Nat.le_of_ble_eq_true rfl), (by rw [hR]; exact Nat.le_of_ble_eq_true rfl)⟩ (fun z3 M2 => ?_)
  refine xv_astore_n (L' := [some (xr a0), some (xr z3)]) hY dX11_undo_7 rfl rfl (by rw [hnL]; decide) rfl rfl ?_
  refine xv_aload_n rfl rfl hY dX11_undo_8 rfl ?_
  refine xv_ifnonnull (t := 15) hY dX11_undo_9 (by decide) rfl ?_ ?_
  · refine xv_aload_n rfl rfl hY dX11_undo_15 rfl ?_
    refine xv_getP (ci := 11) (j := 0) hY dX11_undo_16 rfl rfl rfl (by decide) hin11 (by decide) rfl (List.mem_of_getElem? (i := 2) rfl) (fun v4 => ?_)
    refine xv_aload_n rfl rfl hY dX11_undo_19 rfl ?_
    refine xv_callVV (ci := 2) (y := yX2_become) (ws := wsX2_become) (rm := rm_X2_become) (mc := 0) (ms := 0) (n := 1) (av := [xr z3]) hY dX11_undo_20 rfl rfl rfl (by decide) (fun q hq => by rw [hfl]; exact S_X2_become Y.1.2.1 v4 z3 M2 q hq) (cwV 1 hY.2.2.2.2.1 gX11_undo_X2_become rfl rfl rfl (by decide +kernel) ⟨(by rw [hR]; exact Nat.le_of_ble_eq_true rfl), (by rw [hR]; exact Nat.le_of_ble_eq_true rfl)⟩) rfl (Nat.le_of_ble_eq_true rfl) ⟨(by rw [hR]; exact Nat.le_of_ble_eq_true rfl), (by rw [hR]; exact Nat.le_of_ble_eq_true rfl)⟩ (fun _ M5 => ?_)
    refine xv_aload_n rfl rfl hY dX11_undo_23 rfl ?_
    refine xv_getP (ci := 11) (j := 1) hY dX11_undo_24 rfl rfl rfl (by decide) hin11 (by decide) rfl (List.mem_of_getElem? (i := 1) rfl) (fun v6 => ?_)
    refine xv_getI (ci := 1) (j := 0) hY dX11_undo_27 rfl rfl rfl (by decide) hin1 (by decide) rfl (List.mem_of_getElem? (i := 3) rfl) (fun v7 => ?_)
    exact xv_ireti hY hfl dX11_undo_30 hret (Nat.le_of_ble_eq_true rfl) (Nat.le_of_ble_eq_true rfl)
  · refine xv_bipush (by decide) hY dX11_undo_12 rfl ?_
    exact xv_ireti hY hfl dX11_undo_14 hret (Nat.le_of_ble_eq_true rfl) (Nat.le_of_ble_eq_true rfl)
set_option maxHeartbeats 4000000 in
set_option maxRecDepth 100000 in
theorem S_X11_keep (l : Launch) (a0 : Nat) (M : xv_M) (q : Int × xv_M) (h : D_X11_keep a0 M = some q) : xv_Met l yX11_keep wsX11_keep rm_X11_keep 0 0 false [xr a0] M (xv_qI false q) := by
  refine xv_enter (cc := cX11_keep) (nL := 1) (ret := (some .int)) rfl (by decide +kernel) (Nat.le_of_ble_eq_true rfl) h ?_
  intro Y hY0 hl hR hnL hfl hret hnm0
  have hY : xv_ok Y cX11_keep wsX11_keep RX11 := hY0
  have hin2 : ∀ w ∈ u_ws RX2 TX2 3, w ∈ wsX11_keep := fun _ h => List.mem_cons_of_mem _ (List.mem_append_left _ (List.mem_append_left _ (List.mem_append_left _ (List.mem_append_left _ (List.mem_append_right _ h)))))
  have hin6 : ∀ w ∈ u_ws RX6 TX6 4, w ∈ wsX11_keep := fun _ h => List.mem_cons_of_mem _ (List.mem_append_left _ (List.mem_append_left _ (List.mem_append_left _ (List.mem_append_right _ h))))
  have hin11 : ∀ w ∈ u_ws RX11 TX11 6, w ∈ wsX11_keep := fun _ h => List.mem_cons_of_mem _ (List.mem_append_left _ (List.mem_append_left _ (List.mem_append_left _ (List.mem_append_left _ (List.mem_append_left _ (List.mem_append_right _ h))))))
  unfold D_X11_keep
  refine xv_mk (L' := [some (xr a0)]) [true] rfl ?_
  refine xv_aload_n rfl rfl hY dX11_keep_0 rfl ?_
  refine xv_getP (ci := 11) (j := 2) hY dX11_keep_1 rfl rfl rfl (by decide) hin11 (by decide) rfl (List.mem_of_getElem? (i := 1) rfl) (fun v1 => ?_)
  refine xv_aload_n rfl rfl hY dX11_keep_4 rfl ?_
  refine xv_getP (ci := 11) (j := 0) hY dX11_keep_5 rfl rfl rfl (by decide) hin11 (by decide) rfl (List.mem_of_getElem? (i := 2) rfl) (fun v2 => ?_)
  refine xv_getP (ci := 2) (j := 0) hY dX11_keep_8 rfl rfl rfl (by decide) hin2 (by decide) rfl (List.mem_of_getElem? (i := 3) rfl) (fun v3 => ?_)
  refine xv_callVV (ci := 6) (y := yX6_copyFrom) (ws := wsX6_copyFrom) (rm := rm_X6_copyFrom) (mc := 0) (ms := 0) (n := 1) (av := [xr v3]) hY dX11_keep_11 rfl rfl rfl (by decide) (fun q hq => by rw [hfl]; exact S_X6_copyFrom Y.1.2.1 v1 v3 M q hq) (cwV 1 hY.2.2.2.2.1 gX11_keep_X6_copyFrom rfl rfl rfl (by decide +kernel) ⟨(by rw [hR]; exact Nat.le_of_ble_eq_true rfl), (by rw [hR]; exact Nat.le_of_ble_eq_true rfl)⟩) rfl (Nat.le_of_ble_eq_true rfl) ⟨(by rw [hR]; exact Nat.le_of_ble_eq_true rfl), (by rw [hR]; exact Nat.le_of_ble_eq_true rfl)⟩ (fun _ M4 => ?_)
  refine xv_aload_n rfl rfl hY dX11_keep_14 rfl ?_
  refine xv_iconst hY dX11_keep_15 rfl ?_
  refine xv_putZ (ci := 11) (j := 5) hY dX11_keep_16 rfl rfl rfl (by decide) hin11 (by decide) rfl (List.mem_of_getElem? (i := 4) rfl) tyX11_ok nmX11 (Or.inl rfl) rfl (fun M5 => ?_)
  refine xv_aload_n rfl rfl hY dX11_keep_19 rfl ?_
  refine xv_getP (ci := 11) (j := 2) hY dX11_keep_20 rfl rfl rfl (by decide) hin11 (by decide) rfl (List.mem_of_getElem? (i := 1) rfl) (fun v6 => ?_)
  refine xv_getP (ci := 6) (j := 1) hY dX11_keep_23 rfl rfl rfl (by decide) hin6 (by decide) rfl (List.mem_of_getElem? (i := 5) rfl) (fun v7 => ?_)
  refine xv_callVI (ci := 5) (y := yX5_countThere) (ws := wsX5_countThere) (rm := rm_X5_countThere) (mc := 0) (ms := 0) (n := 0) (av := []) hY dX11_keep_26 rfl rfl rfl (by decide) (fun q hq => by rw [hfl]; exact S_X5_countThere Y.1.2.1 v7 M5 q hq) (cwV 0 hY.2.2.2.2.1 gX11_keep_X5_countThere rfl rfl rfl (by decide +kernel) ⟨(by rw [hR]; exact Nat.le_of_ble_eq_true rfl), (by rw [hR]; exact Nat.le_of_ble_eq_true rfl)⟩) rfl (Nat.le_of_ble_eq_true rfl) ⟨(by rw [hR]; exact Nat.le_of_ble_eq_true rfl), (by rw [hR]; exact Nat.le_of_ble_eq_true rfl)⟩ (fun z9 M8 => ?_)
  exact xv_ireti hY hfl dX11_keep_29 hret (Nat.le_of_ble_eq_true rfl) (Nat.le_of_ble_eq_true rfl)
set_option maxHeartbeats 4000000 in
set_option maxRecDepth 100000 in
theorem S_X11_restore (l : Launch) (a0 : Nat) (M : xv_M) (q : Int × xv_M) (h : D_X11_restore a0 M = some q) : xv_Met l yX11_restore wsX11_restore rm_X11_restore 0 0 false [xr a0] M (xv_qI false q) := by
  refine xv_enter (cc := cX11_restore) (nL := 1) (ret := (some .int)) rfl (by decide +kernel) (Nat.le_of_ble_eq_true rfl) h ?_
  intro Y hY0 hl hR hnL hfl hret hnm0
  have hY : xv_ok Y cX11_restore wsX11_restore RX11 := hY0
  have hin2 : ∀ w ∈ u_ws RX2 TX2 3, w ∈ wsX11_restore := fun _ h => List.mem_cons_of_mem _ (List.mem_append_left _ (List.mem_append_left _ (List.mem_append_left _ (List.mem_append_left _ (List.mem_append_left _ (List.mem_append_left _ (List.mem_append_left _ (List.mem_append_left _ (List.mem_append_right _ h)))))))))
  have hin6 : ∀ w ∈ u_ws RX6 TX6 4, w ∈ wsX11_restore := fun _ h => List.mem_cons_of_mem _ (List.mem_append_left _ (List.mem_append_left _ (List.mem_append_left _ (List.mem_append_left _ (List.mem_append_left _ (List.mem_append_left _ (List.mem_append_left _ (List.mem_append_right _ h))))))))
  have hin11 : ∀ w ∈ u_ws RX11 TX11 6, w ∈ wsX11_restore := fun _ h => List.mem_cons_of_mem _ (List.mem_append_left _ (List.mem_append_left _ (List.mem_append_left _ (List.mem_append_left _ (List.mem_append_left _ (List.mem_append_left _ (List.mem_append_left _ (List.mem_append_left _ (List.mem_append_left _ (List.mem_append_right _ h))))))))))
  unfold D_X11_restore
  refine xv_mk (L' := [some (xr a0)]) [true] rfl ?_
  refine xv_aload_n rfl rfl hY dX11_restore_0 rfl ?_
  refine xv_getI (ci := 11) (j := 5) hY dX11_restore_1 rfl rfl rfl (by decide) hin11 (by decide) rfl (List.mem_of_getElem? (i := 1) rfl) (fun v1 => ?_)
  refine xv_if_ne (t := 10) hY dX11_restore_4 (by decide) rfl ?_ ?_
  · refine xv_aload_n rfl rfl hY dX11_restore_10 rfl ?_
    refine xv_getP (ci := 11) (j := 1) hY dX11_restore_11 rfl rfl rfl (by decide) hin11 (by decide) rfl (List.mem_of_getElem? (i := 2) rfl) (fun v2 => ?_)
    refine xv_aload_n rfl rfl hY dX11_restore_14 rfl ?_
    refine xv_getP (ci := 11) (j := 0) hY dX11_restore_15 rfl rfl rfl (by decide) hin11 (by decide) rfl (List.mem_of_getElem? (i := 3) rfl) (fun v3 => ?_)
    refine xv_getP (ci := 2) (j := 0) hY dX11_restore_18 rfl rfl rfl (by decide) hin2 (by decide) rfl (List.mem_of_getElem? (i := 4) rfl) (fun v4 => ?_)
    refine xv_callVV (ci := 1) (y := yX1_record) (ws := wsX1_record) (rm := rm_X1_record) (mc := 0) (ms := 0) (n := 1) (av := [xr v4]) hY dX11_restore_21 rfl rfl rfl (by decide) (fun q hq => by rw [hfl]; exact S_X1_record Y.1.2.1 v2 v4 M q hq) (cwV 1 hY.2.2.2.2.1 gX11_restore_X1_record rfl rfl rfl (by decide +kernel) ⟨(by rw [hR]; exact Nat.le_of_ble_eq_true rfl), (by rw [hR]; exact Nat.le_of_ble_eq_true rfl)⟩) rfl (Nat.le_of_ble_eq_true rfl) ⟨(by rw [hR]; exact Nat.le_of_ble_eq_true rfl), (by rw [hR]; exact Nat.le_of_ble_eq_true rfl)⟩ (fun _ M5 => ?_)
    refine xv_aload_n rfl rfl hY dX11_restore_24 rfl ?_
    refine xv_getP (ci := 11) (j := 0) hY dX11_restore_25 rfl rfl rfl (by decide) hin11 (by decide) rfl (List.mem_of_getElem? (i := 3) rfl) (fun v6 => ?_)
    refine xv_aload_n rfl rfl hY dX11_restore_28 rfl ?_
    refine xv_getP (ci := 11) (j := 2) hY dX11_restore_29 rfl rfl rfl (by decide) hin11 (by decide) rfl (List.mem_of_getElem? (i := 5) rfl) (fun v7 => ?_)
    refine xv_callVV (ci := 2) (y := yX2_become) (ws := wsX2_become) (rm := rm_X2_become) (mc := 0) (ms := 0) (n := 1) (av := [xr v7]) hY dX11_restore_32 rfl rfl rfl (by decide) (fun q hq => by rw [hfl]; exact S_X2_become Y.1.2.1 v6 v7 M5 q hq) (cwV 1 hY.2.2.2.2.1 gX11_restore_X2_become rfl rfl rfl (by decide +kernel) ⟨(by rw [hR]; exact Nat.le_of_ble_eq_true rfl), (by rw [hR]; exact Nat.le_of_ble_eq_true rfl)⟩) rfl (Nat.le_of_ble_eq_true rfl) ⟨(by rw [hR]; exact Nat.le_of_ble_eq_true rfl), (by rw [hR]; exact Nat.le_of_ble_eq_true rfl)⟩ (fun _ M8 => ?_)
    refine xv_aload_n rfl rfl hY dX11_restore_35 rfl ?_
    refine xv_getP (ci := 11) (j := 0) hY dX11_restore_36 rfl rfl rfl (by decide) hin11 (by decide) rfl (List.mem_of_getElem? (i := 3) rfl) (fun v9 => ?_)
    refine xv_getP (ci := 2) (j := 0) hY dX11_restore_39 rfl rfl rfl (by decide) hin2 (by decide) rfl (List.mem_of_getElem? (i := 4) rfl) (fun v10 => ?_)
    refine xv_getP (ci := 6) (j := 1) hY dX11_restore_42 rfl rfl rfl (by decide) hin6 (by decide) rfl (List.mem_of_getElem? (i := 6) rfl) (fun v11 => ?_)
    refine xv_callVI (ci := 5) (y := yX5_countThere) (ws := wsX5_countThere) (rm := rm_X5_countThere) (mc := 0) (ms := 0) (n := 0) (av := []) hY dX11_restore_45 rfl rfl rfl (by decide) (fun q hq => by rw [hfl]; exact S_X5_countThere Y.1.2.1 v11 M8 q hq) (cwV 0 hY.2.2.2.2.1 gX11_restore_X5_countThere rfl rfl rfl (by decide +kernel) ⟨(by rw [hR]; exact Nat.le_of_ble_eq_true rfl), (by rw [hR]; exact Nat.le_of_ble_eq_true rfl)⟩) rfl (Nat.le_of_ble_eq_true rfl) ⟨(by rw [hR]; exact Nat.le_of_ble_eq_true rfl), (by rw [hR]; exact Nat.le_of_ble_eq_true rfl)⟩ (fun z13 M12 => ?_)
    exact xv_ireti hY hfl dX11_restore_48 hret (Nat.le_of_ble_eq_true rfl) (Nat.le_of_ble_eq_true rfl)
  · refine xv_bipush (by decide) hY dX11_restore_7 rfl ?_
    exact xv_ireti hY hfl dX11_restore_9 hret (Nat.le_of_ble_eq_true rfl) (Nat.le_of_ble_eq_true rfl)
set_option maxHeartbeats 4000000 in
set_option maxRecDepth 100000 in
theorem S_X11_span (l : Launch) (a0 : Nat) (a1 : Int) (a2 : Int) (M : xv_M) (q : Int × xv_M) (h : D_X11_span a0 a1 a2 M = some q) : xv_Met l yX11_span wsX11_span rm_X11_span 0 0 false [xr a0, xi a1, xi a2] M (xv_qI false q) := by
  refine xv_enter (cc := cX11_span) (nL := 4) (ret := (some .int)) rfl (by decide +kernel) (Nat.le_of_ble_eq_true rfl) h ?_
  intro Y hY0 hl hR hnL hfl hret hnm0
  have hY : xv_ok Y cX11_span wsX11_span RX11 := hY0
  have hin2 : ∀ w ∈ u_ws RX2 TX2 3, w ∈ wsX11_span := fun _ h => List.mem_cons_of_mem _ (List.mem_append_left _ (List.mem_append_left _ (List.mem_append_left _ (List.mem_append_left _ (List.mem_append_right _ h)))))
  have hin5 : ∀ w ∈ u_ws RX5 TX5 8, w ∈ wsX11_span := fun _ h => List.mem_cons_of_mem _ (List.mem_append_left _ (List.mem_append_left _ (List.mem_append_right _ h)))
  have hin6 : ∀ w ∈ u_ws RX6 TX6 4, w ∈ wsX11_span := fun _ h => List.mem_cons_of_mem _ (List.mem_append_left _ (List.mem_append_left _ (List.mem_append_left _ (List.mem_append_right _ h))))
  have hin8 : ∀ w ∈ u_ws RX8 TX8 5, w ∈ wsX11_span := fun _ h => List.mem_cons_of_mem _ (List.mem_append_left _ (List.mem_append_right _ h))
  have hin11 : ∀ w ∈ u_ws RX11 TX11 6, w ∈ wsX11_span := fun _ h => List.mem_cons_of_mem _ (List.mem_append_left _ (List.mem_append_left _ (List.mem_append_left _ (List.mem_append_left _ (List.mem_append_left _ (List.mem_append_right _ h))))))
  unfold D_X11_span
  refine xv_mk (L' := [some (xr a0), some (xi a1), some (xi a2), none]) [true, true, true, true] rfl ?_
  refine xv_aload_n rfl rfl hY dX11_span_0 rfl ?_
  refine xv_getP (ci := 11) (j := 0) hY dX11_span_1 rfl rfl rfl (by decide) hin11 (by decide) rfl (List.mem_of_getElem? (i := 1) rfl) (fun v1 => ?_)
  refine xv_getP (ci := 2) (j := 0) hY dX11_span_4 rfl rfl rfl (by decide) hin2 (by decide) rfl (List.mem_of_getElem? (i := 2) rfl) (fun v2 => ?_)
  refine xv_getP (ci := 6) (j := 1) hY dX11_span_7 rfl rfl rfl (by decide) hin6 (by decide) rfl (List.mem_of_getElem? (i := 3) rfl) (fun v3 => ?_)
  refine xv_astore_n (L' := [some (xr a0), some (xi a1), some (xi a2), some (xr v3)]) hY dX11_span_10 rfl rfl (by rw [hnL]; decide) rfl rfl ?_
  refine xv_aload_n rfl rfl hY dX11_span_11 rfl ?_
  refine xv_iload_n rfl rfl hY dX11_span_12 rfl ?_
  refine xv_callVI (ci := 5) (y := yX5_has) (ws := wsX5_has) (rm := rm_X5_has) (mc := 0) (ms := 0) (n := 1) (av := [xi a1]) hY dX11_span_13 rfl rfl rfl (by decide) (fun q hq => by rw [hfl]; exact S_X5_has Y.1.2.1 v3 a1 M q hq) (cwV 1 hY.2.2.2.2.1 gX11_span_X5_has rfl rfl rfl (by decide +kernel) ⟨(by rw [hR]; exact Nat.le_of_ble_eq_true rfl), (by rw [hR]; exact Nat.le_of_ble_eq_true rfl)⟩) rfl (Nat.le_of_ble_eq_true rfl) ⟨(by rw [hR]; exact Nat.le_of_ble_eq_true rfl), (by rw [hR]; exact Nat.le_of_ble_eq_true rfl)⟩ (fun z5 M4 => ?_)
  refine xv_if_ne (t := 21) hY dX11_span_16 (by decide) rfl ?_ ?_
  · refine xv_iload_n rfl rfl hY dX11_span_21 rfl ?_
    refine xv_byg (fun hz => ?_)
    refine xv_byif (fun h0 => ?_) (fun h0 => ?_)
    · refine xv_swIn (off := 50) (t := 72) hY dX11_span_22 (xv_inb_in hz) (by omega) (by omega) (by rw [h0]; rfl) (by decide) ?_
      refine xv_aload_n rfl rfl hY dX11_span_72 rfl ?_
      refine xv_getP (ci := 5) (j := 2) hY dX11_span_73 rfl rfl rfl (by decide) hin5 (by decide) rfl (List.mem_of_getElem? (i := 4) rfl) (fun v29 => ?_)
      refine xv_iload_n rfl rfl hY dX11_span_76 rfl ?_
      refine xv_iald hY dX11_span_77 rfl (fun v30 => ?_)
      exact xv_ireti hY hfl dX11_span_78 hret (Nat.le_of_ble_eq_true rfl) (Nat.le_of_ble_eq_true rfl)
    · refine xv_byif (fun h1 => ?_) (fun h1 => ?_)
      · refine xv_swIn (off := 57) (t := 79) hY dX11_span_22 (xv_inb_in hz) (by omega) (by omega) (by rw [h1]; rfl) (by decide) ?_
        refine xv_aload_n rfl rfl hY dX11_span_79 rfl ?_
        refine xv_getP (ci := 5) (j := 3) hY dX11_span_80 rfl rfl rfl (by decide) hin5 (by decide) rfl (List.mem_of_getElem? (i := 5) rfl) (fun v27 => ?_)
        refine xv_iload_n rfl rfl hY dX11_span_83 rfl ?_
        refine xv_iald hY dX11_span_84 rfl (fun v28 => ?_)
        exact xv_ireti hY hfl dX11_span_85 hret (Nat.le_of_ble_eq_true rfl) (Nat.le_of_ble_eq_true rfl)
      · refine xv_byif (fun h2 => ?_) (fun h2 => ?_)
        · refine xv_swIn (off := 64) (t := 86) hY dX11_span_22 (xv_inb_in hz) (by omega) (by omega) (by rw [h2]; rfl) (by decide) ?_
          refine xv_aload_n rfl rfl hY dX11_span_86 rfl ?_
          refine xv_getP (ci := 5) (j := 4) hY dX11_span_87 rfl rfl rfl (by decide) hin5 (by decide) rfl (List.mem_of_getElem? (i := 6) rfl) (fun v25 => ?_)
          refine xv_iload_n rfl rfl hY dX11_span_90 rfl ?_
          refine xv_iald hY dX11_span_91 rfl (fun v26 => ?_)
          exact xv_ireti hY hfl dX11_span_92 hret (Nat.le_of_ble_eq_true rfl) (Nat.le_of_ble_eq_true rfl)
        · refine xv_byif (fun h3 => ?_) (fun h3 => ?_)
          · refine xv_swIn (off := 71) (t := 93) hY dX11_span_22 (xv_inb_in hz) (by omega) (by omega) (by rw [h3]; rfl) (by decide) ?_
            refine xv_aload_n rfl rfl hY dX11_span_93 rfl ?_
            refine xv_getP (ci := 5) (j := 5) hY dX11_span_94 rfl rfl rfl (by decide) hin5 (by decide) rfl (List.mem_of_getElem? (i := 7) rfl) (fun v23 => ?_)
            refine xv_iload_n rfl rfl hY dX11_span_97 rfl ?_
            refine xv_iald hY dX11_span_98 rfl (fun v24 => ?_)
            exact xv_ireti hY hfl dX11_span_99 hret (Nat.le_of_ble_eq_true rfl) (Nat.le_of_ble_eq_true rfl)
          · refine xv_byif (fun h4 => ?_) (fun h4 => ?_)
            · refine xv_swIn (off := 78) (t := 100) hY dX11_span_22 (xv_inb_in hz) (by omega) (by omega) (by rw [h4]; rfl) (by decide) ?_
              refine xv_aload_n rfl rfl hY dX11_span_100 rfl ?_
              refine xv_getP (ci := 11) (j := 0) hY dX11_span_101 rfl rfl rfl (by decide) hin11 (by decide) rfl (List.mem_of_getElem? (i := 1) rfl) (fun v19 => ?_)
              refine xv_getP (ci := 2) (j := 2) hY dX11_span_104 rfl rfl rfl (by decide) hin2 (by decide) rfl (List.mem_of_getElem? (i := 8) rfl) (fun v20 => ?_)
              refine xv_getP (ci := 8) (j := 0) hY dX11_span_107 rfl rfl rfl (by decide) hin8 (by decide) rfl (List.mem_of_getElem? (i := 9) rfl) (fun v21 => ?_)
              refine xv_iload_n rfl rfl hY dX11_span_110 rfl ?_
              refine xv_iald hY dX11_span_111 rfl (fun v22 => ?_)
              exact xv_ireti hY hfl dX11_span_112 hret (Nat.le_of_ble_eq_true rfl) (Nat.le_of_ble_eq_true rfl)
            · refine xv_byif (fun h5 => ?_) (fun h5 => ?_)
              · refine xv_swIn (off := 91) (t := 113) hY dX11_span_22 (xv_inb_in hz) (by omega) (by omega) (by rw [h5]; rfl) (by decide) ?_
                refine xv_aload_n rfl rfl hY dX11_span_113 rfl ?_
                refine xv_getP (ci := 11) (j := 0) hY dX11_span_114 rfl rfl rfl (by decide) hin11 (by decide) rfl (List.mem_of_getElem? (i := 1) rfl) (fun v15 => ?_)
                refine xv_getP (ci := 2) (j := 2) hY dX11_span_117 rfl rfl rfl (by decide) hin2 (by decide) rfl (List.mem_of_getElem? (i := 8) rfl) (fun v16 => ?_)
                refine xv_getP (ci := 8) (j := 1) hY dX11_span_120 rfl rfl rfl (by decide) hin8 (by decide) rfl (List.mem_of_getElem? (i := 10) rfl) (fun v17 => ?_)
                refine xv_iload_n rfl rfl hY dX11_span_123 rfl ?_
                refine xv_iald hY dX11_span_124 rfl (fun v18 => ?_)
                exact xv_ireti hY hfl dX11_span_125 hret (Nat.le_of_ble_eq_true rfl) (Nat.le_of_ble_eq_true rfl)
              · refine xv_byif (fun h6 => ?_) (fun h6 => ?_)
                · refine xv_swIn (off := 104) (t := 126) hY dX11_span_22 (xv_inb_in hz) (by omega) (by omega) (by rw [h6]; rfl) (by decide) ?_
                  refine xv_aload_n rfl rfl hY dX11_span_126 rfl ?_
                  refine xv_getP (ci := 11) (j := 0) hY dX11_span_127 rfl rfl rfl (by decide) hin11 (by decide) rfl (List.mem_of_getElem? (i := 1) rfl) (fun v10 => ?_)
                  refine xv_getP (ci := 2) (j := 0) hY dX11_span_130 rfl rfl rfl (by decide) hin2 (by decide) rfl (List.mem_of_getElem? (i := 2) rfl) (fun v11 => ?_)
                  refine xv_getP (ci := 6) (j := 2) hY dX11_span_133 rfl rfl rfl (by decide) hin6 (by decide) rfl (List.mem_of_getElem? (i := 11) rfl) (fun v12 => ?_)
                  refine xv_iload_n rfl rfl hY dX11_span_136 rfl ?_
                  refine xv_callVI (ci := 9) (y := yX9_countInside) (ws := wsX9_countInside) (rm := rm_X9_countInside) (mc := 0) (ms := 0) (n := 1) (av := [xi a1]) hY dX11_span_137 rfl rfl rfl (by decide) (fun q hq => by rw [hfl]; exact S_X9_countInside Y.1.2.1 v12 a1 M4 q hq) (cwV 1 hY.2.2.2.2.1 gX11_span_X9_countInside rfl rfl rfl (by decide +kernel) ⟨(by rw [hR]; exact Nat.le_of_ble_eq_true rfl), (by rw [hR]; exact Nat.le_of_ble_eq_true rfl)⟩) rfl (Nat.le_of_ble_eq_true rfl) ⟨(by rw [hR]; exact Nat.le_of_ble_eq_true rfl), (by rw [hR]; exact Nat.le_of_ble_eq_true rfl)⟩ (fun z14 M13 => ?_)
                  exact xv_ireti hY hfl dX11_span_140 hret (Nat.le_of_ble_eq_true rfl) (Nat.le_of_ble_eq_true rfl)
                · refine xv_byif (fun h7 => ?_) (fun h7 => ?_)
                  · refine xv_swIn (off := 119) (t := 141) hY dX11_span_22 (xv_inb_in hz) (by omega) (by omega) (by rw [h7]; rfl) (by decide) ?_
                    refine xv_aload_n rfl rfl hY dX11_span_141 rfl ?_
                    refine xv_getP (ci := 5) (j := 6) hY dX11_span_142 rfl rfl rfl (by decide) hin5 (by decide) rfl (List.mem_of_getElem? (i := 12) rfl) (fun v8 => ?_)
                    refine xv_iload_n rfl rfl hY dX11_span_145 rfl ?_
                    refine xv_iald hY dX11_span_146 rfl (fun v9 => ?_)
                    exact xv_ireti hY hfl dX11_span_147 hret (Nat.le_of_ble_eq_true rfl) (Nat.le_of_ble_eq_true rfl)
                  · refine xv_byif (fun h8 => ?_) (fun h8 => ?_)
                    · refine xv_swIn (off := 126) (t := 148) hY dX11_span_22 (xv_inb_in hz) (by omega) (by omega) (by rw [h8]; rfl) (by decide) ?_
                      refine xv_aload_n rfl rfl hY dX11_span_148 rfl ?_
                      refine xv_getP (ci := 5) (j := 7) hY dX11_span_149 rfl rfl rfl (by decide) hin5 (by decide) rfl (List.mem_of_getElem? (i := 13) rfl) (fun v6 => ?_)
                      refine xv_iload_n rfl rfl hY dX11_span_152 rfl ?_
                      refine xv_iald hY dX11_span_153 rfl (fun v7 => ?_)
                      exact xv_ireti hY hfl dX11_span_154 hret (Nat.le_of_ble_eq_true rfl) (Nat.le_of_ble_eq_true rfl)
                    · refine xv_swOut hY dX11_span_22 (xv_inb_in hz) (by omega) (t := 155) (by decide) ?_
                      refine xv_bipush (by decide) hY dX11_span_155 rfl ?_
                      exact xv_ireti hY hfl dX11_span_157 hret (Nat.le_of_ble_eq_true rfl) (Nat.le_of_ble_eq_true rfl)
  · refine xv_iconst hY dX11_span_19 rfl ?_
    exact xv_ireti hY hfl dX11_span_20 hret (Nat.le_of_ble_eq_true rfl) (Nat.le_of_ble_eq_true rfl)
set_option maxHeartbeats 4000000 in
set_option maxRecDepth 100000 in
theorem S_X11_ticksInOldest (l : Launch) (a0 : Nat) (a1 : Int) (M : xv_M) (q : Int × xv_M) (h : D_X11_ticksInOldest a0 a1 M = some q) : xv_Met l yX11_ticksInOldest wsX11_ticksInOldest rm_X11_ticksInOldest 0 0 false [xr a0, xi a1] M (xv_qI false q) := by
  refine xv_enter (cc := cX11_ticksInOldest) (nL := 4) (ret := (some .int)) rfl (by decide +kernel) (Nat.le_of_ble_eq_true rfl) h ?_
  intro Y hY0 hl hR hnL hfl hret hnm0
  have hY : xv_ok Y cX11_ticksInOldest wsX11_ticksInOldest RX11 := hY0
  have hin2 : ∀ w ∈ u_ws RX2 TX2 3, w ∈ wsX11_ticksInOldest := fun _ h => List.mem_cons_of_mem _ (List.mem_append_left _ (List.mem_append_left _ (List.mem_append_right _ h)))
  have hin6 : ∀ w ∈ u_ws RX6 TX6 4, w ∈ wsX11_ticksInOldest := fun _ h => List.mem_cons_of_mem _ (List.mem_append_left _ (List.mem_append_right _ h))
  have hin9 : ∀ w ∈ u_ws RX9 TX9 9, w ∈ wsX11_ticksInOldest := fun _ h => List.mem_cons_of_mem _ (List.mem_append_right _ h)
  have hin11 : ∀ w ∈ u_ws RX11 TX11 6, w ∈ wsX11_ticksInOldest := fun _ h => List.mem_cons_of_mem _ (List.mem_append_left _ (List.mem_append_left _ (List.mem_append_left _ (List.mem_append_right _ h))))
  unfold D_X11_ticksInOldest
  refine xv_mk (L' := [some (xr a0), some (xi a1), none, none]) [true, true, true, true] rfl ?_
  refine xv_aload_n rfl rfl hY dX11_ticksInOldest_0 rfl ?_
  refine xv_getP (ci := 11) (j := 0) hY dX11_ticksInOldest_1 rfl rfl rfl (by decide) hin11 (by decide) rfl (List.mem_of_getElem? (i := 1) rfl) (fun v1 => ?_)
  refine xv_getP (ci := 2) (j := 0) hY dX11_ticksInOldest_4 rfl rfl rfl (by decide) hin2 (by decide) rfl (List.mem_of_getElem? (i := 2) rfl) (fun v2 => ?_)
  refine xv_getP (ci := 6) (j := 2) hY dX11_ticksInOldest_7 rfl rfl rfl (by decide) hin6 (by decide) rfl (List.mem_of_getElem? (i := 3) rfl) (fun v3 => ?_)
  refine xv_astore_n (L' := [some (xr a0), some (xi a1), some (xr v3), none]) hY dX11_ticksInOldest_10 rfl rfl (by rw [hnL]; decide) rfl rfl ?_
  refine xv_aload_n rfl rfl hY dX11_ticksInOldest_11 rfl ?_
  refine xv_iload_n rfl rfl hY dX11_ticksInOldest_12 rfl ?_
  refine xv_callVI (ci := 9) (y := yX9_oldestSpan) (ws := wsX9_oldestSpan) (rm := rm_X9_oldestSpan) (mc := 0) (ms := 0) (n := 1) (av := [xi a1]) hY dX11_ticksInOldest_13 rfl rfl rfl (by decide) (fun q hq => by rw [hfl]; exact S_X9_oldestSpan Y.1.2.1 v3 a1 M q hq) (cwV 1 hY.2.2.2.2.1 gX11_ticksInOldest_X9_oldestSpan rfl rfl rfl (by decide +kernel) ⟨(by rw [hR]; exact Nat.le_of_ble_eq_true rfl), (by rw [hR]; exact Nat.le_of_ble_eq_true rfl)⟩) rfl (Nat.le_of_ble_eq_true rfl) ⟨(by rw [hR]; exact Nat.le_of_ble_eq_true rfl), (by rw [hR]; exact Nat.le_of_ble_eq_true rfl)⟩ (fun z5 M4 => ?_)
  refine xv_istore_n (L' := [some (xr a0), some (xi a1), some (xr v3), some (xi z5)]) hY dX11_ticksInOldest_16 rfl rfl (by rw [hnL]; decide) rfl rfl ?_
  refine xv_iload_n rfl rfl hY dX11_ticksInOldest_17 rfl ?_
  refine xv_bipush (by decide) hY dX11_ticksInOldest_18 rfl ?_
  refine xv_icmp_ne (t := 28) hY dX11_ticksInOldest_20 (by decide) rfl ?_ ?_
  · refine xv_aload_n rfl rfl hY dX11_ticksInOldest_28 rfl ?_
    refine xv_getP (ci := 11) (j := 0) hY dX11_ticksInOldest_29 rfl rfl rfl (by decide) hin11 (by decide) rfl (List.mem_of_getElem? (i := 1) rfl) (fun v6 => ?_)
    refine xv_getP (ci := 2) (j := 0) hY dX11_ticksInOldest_32 rfl rfl rfl (by decide) hin2 (by decide) rfl (List.mem_of_getElem? (i := 2) rfl) (fun v7 => ?_)
    refine xv_getI (ci := 6) (j := 0) hY dX11_ticksInOldest_35 rfl rfl rfl (by decide) hin6 (by decide) rfl (List.mem_of_getElem? (i := 4) rfl) (fun v8 => ?_)
    refine xv_aload_n rfl rfl hY dX11_ticksInOldest_38 rfl ?_
    refine xv_getP (ci := 9) (j := 8) hY dX11_ticksInOldest_39 rfl rfl rfl (by decide) hin9 (by decide) rfl (List.mem_of_getElem? (i := 5) rfl) (fun v9 => ?_)
    refine xv_iload_n rfl rfl hY dX11_ticksInOldest_42 rfl ?_
    refine xv_aaldI hY dX11_ticksInOldest_43 rfl (fun v10 => ?_)
    refine xv_iload_n rfl rfl hY dX11_ticksInOldest_44 rfl ?_
    refine xv_iald hY dX11_ticksInOldest_45 rfl (fun v11 => ?_)
    refine xv_isub hY dX11_ticksInOldest_46 rfl ?_
    exact xv_ireti hY hfl dX11_ticksInOldest_47 hret (Nat.le_of_ble_eq_true rfl) (Nat.le_of_ble_eq_true rfl)
  · refine xv_bipush (by decide) hY dX11_ticksInOldest_23 rfl ?_
    refine xv_goto (pc' := 47) hY dX11_ticksInOldest_25 (by decide) ?_
    exact xv_ireti hY hfl dX11_ticksInOldest_47 hret (Nat.le_of_ble_eq_true rfl) (Nat.le_of_ble_eq_true rfl)
set_option maxHeartbeats 4000000 in
set_option maxRecDepth 100000 in
theorem S_X11_walker (l : Launch) (a0 : Nat) (a1 : Int) (a2 : Int) (M : xv_M) (q : Int × xv_M) (h : D_X11_walker a0 a1 a2 M = some q) : xv_Met l yX11_walker wsX11_walker rm_X11_walker 0 0 false [xr a0, xi a1, xi a2] M (xv_qI false q) := by
  refine xv_enter (cc := cX11_walker) (nL := 4) (ret := (some .int)) rfl (by decide +kernel) (Nat.le_of_ble_eq_true rfl) h ?_
  intro Y hY0 hl hR hnL hfl hret hnm0
  have hY : xv_ok Y cX11_walker wsX11_walker RX11 := hY0
  have hin2 : ∀ w ∈ u_ws RX2 TX2 3, w ∈ wsX11_walker := fun _ h => List.mem_cons_of_mem _ (List.mem_append_left _ (List.mem_append_left _ (List.mem_append_right _ h)))
  have hin6 : ∀ w ∈ u_ws RX6 TX6 4, w ∈ wsX11_walker := fun _ h => List.mem_cons_of_mem _ (List.mem_append_left _ (List.mem_append_right _ h))
  have hin9 : ∀ w ∈ u_ws RX9 TX9 9, w ∈ wsX11_walker := fun _ h => List.mem_cons_of_mem _ (List.mem_append_right _ h)
  have hin11 : ∀ w ∈ u_ws RX11 TX11 6, w ∈ wsX11_walker := fun _ h => List.mem_cons_of_mem _ (List.mem_append_left _ (List.mem_append_left _ (List.mem_append_left _ (List.mem_append_right _ h))))
  unfold D_X11_walker
  refine xv_mk (L' := [some (xr a0), some (xi a1), some (xi a2), none]) [true, true, true, true] rfl ?_
  refine xv_aload_n rfl rfl hY dX11_walker_0 rfl ?_
  refine xv_getP (ci := 11) (j := 0) hY dX11_walker_1 rfl rfl rfl (by decide) hin11 (by decide) rfl (List.mem_of_getElem? (i := 1) rfl) (fun v1 => ?_)
  refine xv_getP (ci := 2) (j := 0) hY dX11_walker_4 rfl rfl rfl (by decide) hin2 (by decide) rfl (List.mem_of_getElem? (i := 2) rfl) (fun v2 => ?_)
  refine xv_getP (ci := 6) (j := 2) hY dX11_walker_7 rfl rfl rfl (by decide) hin6 (by decide) rfl (List.mem_of_getElem? (i := 3) rfl) (fun v3 => ?_)
  refine xv_astore_n (L' := [some (xr a0), some (xi a1), some (xi a2), some (xr v3)]) hY dX11_walker_10 rfl rfl (by rw [hnL]; decide) rfl rfl ?_
  refine xv_aload_n rfl rfl hY dX11_walker_11 rfl ?_
  refine xv_iload_n rfl rfl hY dX11_walker_12 rfl ?_
  refine xv_callVI (ci := 9) (y := yX9_has) (ws := wsX9_has) (rm := rm_X9_has) (mc := 0) (ms := 0) (n := 1) (av := [xi a1]) hY dX11_walker_13 rfl rfl rfl (by decide) (fun q hq => by rw [hfl]; exact S_X9_has Y.1.2.1 v3 a1 M q hq) (cwV 1 hY.2.2.2.2.1 gX11_walker_X9_has rfl rfl rfl (by decide +kernel) ⟨(by rw [hR]; exact Nat.le_of_ble_eq_true rfl), (by rw [hR]; exact Nat.le_of_ble_eq_true rfl)⟩) rfl (Nat.le_of_ble_eq_true rfl) ⟨(by rw [hR]; exact Nat.le_of_ble_eq_true rfl), (by rw [hR]; exact Nat.le_of_ble_eq_true rfl)⟩ (fun z5 M4 => ?_)
  refine xv_if_ne (t := 21) hY dX11_walker_16 (by decide) rfl ?_ ?_
  · refine xv_iload_n rfl rfl hY dX11_walker_21 rfl ?_
    refine xv_byg (fun hz => ?_)
    refine xv_byif (fun h0 => ?_) (fun h0 => ?_)
    · refine xv_swIn (off := 50) (t := 72) hY dX11_walker_22 (xv_inb_in hz) (by omega) (by omega) (by rw [h0]; rfl) (by decide) ?_
      refine xv_aload_n rfl rfl hY dX11_walker_72 rfl ?_
      refine xv_getP (ci := 9) (j := 1) hY dX11_walker_73 rfl rfl rfl (by decide) hin9 (by decide) rfl (List.mem_of_getElem? (i := 4) rfl) (fun v24 => ?_)
      refine xv_iload_n rfl rfl hY dX11_walker_76 rfl ?_
      refine xv_iald hY dX11_walker_77 rfl (fun v25 => ?_)
      exact xv_ireti hY hfl dX11_walker_78 hret (Nat.le_of_ble_eq_true rfl) (Nat.le_of_ble_eq_true rfl)
    · refine xv_byif (fun h1 => ?_) (fun h1 => ?_)
      · refine xv_swIn (off := 57) (t := 79) hY dX11_walker_22 (xv_inb_in hz) (by omega) (by omega) (by rw [h1]; rfl) (by decide) ?_
        refine xv_sipush (by decide) hY dX11_walker_79 rfl ?_
        refine xv_aload_n rfl rfl hY dX11_walker_82 rfl ?_
        refine xv_getP (ci := 9) (j := 2) hY dX11_walker_83 rfl rfl rfl (by decide) hin9 (by decide) rfl (List.mem_of_getElem? (i := 5) rfl) (fun v22 => ?_)
        refine xv_iload_n rfl rfl hY dX11_walker_86 rfl ?_
        refine xv_iald hY dX11_walker_87 rfl (fun v23 => ?_)
        refine xv_iadd hY dX11_walker_88 rfl ?_
        exact xv_ireti hY hfl dX11_walker_89 hret (Nat.le_of_ble_eq_true rfl) (Nat.le_of_ble_eq_true rfl)
      · refine xv_byif (fun h2 => ?_) (fun h2 => ?_)
        · refine xv_swIn (off := 68) (t := 90) hY dX11_walker_22 (xv_inb_in hz) (by omega) (by omega) (by rw [h2]; rfl) (by decide) ?_
          refine xv_aload_n rfl rfl hY dX11_walker_90 rfl ?_
          refine xv_getP (ci := 9) (j := 3) hY dX11_walker_91 rfl rfl rfl (by decide) hin9 (by decide) rfl (List.mem_of_getElem? (i := 6) rfl) (fun v18 => ?_)
          refine xv_iload_n rfl rfl hY dX11_walker_94 rfl ?_
          refine xv_lald hY dX11_walker_95 rfl (fun v19 => ?_)
          refine xv_callSI (y := yJ13_bitCount_95d88) (ws := wsJ13_bitCount_95d88) (rm := rm_J13_bitCount_95d88) (mc := 0) (ms := 0) (n := 1) (av := [xl v19]) hY dX11_walker_96 rfl rfl (fun q hq => by rw [hfl]; exact S_J13_bitCount_95d88 Y.1.2.1 v19 M4 q hq) (va_cwS 1 hY.2.2.2.2.1 gX11_walker_J13_bitCount_95d88 rfl rfl rfl (by decide +kernel) ⟨(by rw [hR]; exact Nat.le_of_ble_eq_true rfl), (by rw [hR]; exact Nat.le_of_ble_eq_true rfl)⟩) rfl (Nat.le_of_ble_eq_true rfl) ⟨(by rw [hR]; exact Nat.le_of_ble_eq_true rfl), (by rw [hR]; exact Nat.le_of_ble_eq_true rfl)⟩ (fun z21 M20 => ?_)
          exact xv_ireti hY hfl dX11_walker_99 hret (Nat.le_of_ble_eq_true rfl) (Nat.le_of_ble_eq_true rfl)
        · refine xv_byif (fun h3 => ?_) (fun h3 => ?_)
          · refine xv_swIn (off := 78) (t := 100) hY dX11_walker_22 (xv_inb_in hz) (by omega) (by omega) (by rw [h3]; rfl) (by decide) ?_
            refine xv_aload_n rfl rfl hY dX11_walker_100 rfl ?_
            refine xv_getP (ci := 9) (j := 4) hY dX11_walker_101 rfl rfl rfl (by decide) hin9 (by decide) rfl (List.mem_of_getElem? (i := 7) rfl) (fun v16 => ?_)
            refine xv_iload_n rfl rfl hY dX11_walker_104 rfl ?_
            refine xv_iald hY dX11_walker_105 rfl (fun v17 => ?_)
            exact xv_ireti hY hfl dX11_walker_106 hret (Nat.le_of_ble_eq_true rfl) (Nat.le_of_ble_eq_true rfl)
          · refine xv_byif (fun h4 => ?_) (fun h4 => ?_)
            · refine xv_swIn (off := 85) (t := 107) hY dX11_walker_22 (xv_inb_in hz) (by omega) (by omega) (by rw [h4]; rfl) (by decide) ?_
              refine xv_aload_n rfl rfl hY dX11_walker_107 rfl ?_
              refine xv_getP (ci := 9) (j := 5) hY dX11_walker_108 rfl rfl rfl (by decide) hin9 (by decide) rfl (List.mem_of_getElem? (i := 8) rfl) (fun v14 => ?_)
              refine xv_iload_n rfl rfl hY dX11_walker_111 rfl ?_
              refine xv_iald hY dX11_walker_112 rfl (fun v15 => ?_)
              exact xv_ireti hY hfl dX11_walker_113 hret (Nat.le_of_ble_eq_true rfl) (Nat.le_of_ble_eq_true rfl)
            · refine xv_byif (fun h5 => ?_) (fun h5 => ?_)
              · refine xv_swIn (off := 92) (t := 114) hY dX11_walker_22 (xv_inb_in hz) (by omega) (by omega) (by rw [h5]; rfl) (by decide) ?_
                refine xv_aload_n rfl rfl hY dX11_walker_114 rfl ?_
                refine xv_iload_n rfl rfl hY dX11_walker_115 rfl ?_
                refine xv_callVI (ci := 11) (y := yX11_ticksInOldest) (ws := wsX11_ticksInOldest) (rm := rm_X11_ticksInOldest) (mc := 0) (ms := 0) (n := 1) (av := [xi a1]) hY dX11_walker_116 rfl rfl rfl (by decide) (fun q hq => by rw [hfl]; exact S_X11_ticksInOldest Y.1.2.1 a0 a1 M4 q hq) (cwV 1 hY.2.2.2.2.1 gX11_walker_X11_ticksInOldest rfl rfl rfl (by decide +kernel) ⟨(by rw [hR]; exact Nat.le_of_ble_eq_true rfl), (by rw [hR]; exact Nat.le_of_ble_eq_true rfl)⟩) rfl (Nat.le_of_ble_eq_true rfl) ⟨(by rw [hR]; exact Nat.le_of_ble_eq_true rfl), (by rw [hR]; exact Nat.le_of_ble_eq_true rfl)⟩ (fun z13 M12 => ?_)
                exact xv_ireti hY hfl dX11_walker_119 hret (Nat.le_of_ble_eq_true rfl) (Nat.le_of_ble_eq_true rfl)
              · refine xv_byif (fun h6 => ?_) (fun h6 => ?_)
                · refine xv_swIn (off := 98) (t := 120) hY dX11_walker_22 (xv_inb_in hz) (by omega) (by omega) (by rw [h6]; rfl) (by decide) ?_
                  refine xv_aload_n rfl rfl hY dX11_walker_120 rfl ?_
                  refine xv_iload_n rfl rfl hY dX11_walker_121 rfl ?_
                  refine xv_callVI (ci := 9) (y := yX9_oldestSpan) (ws := wsX9_oldestSpan) (rm := rm_X9_oldestSpan) (mc := 0) (ms := 0) (n := 1) (av := [xi a1]) hY dX11_walker_122 rfl rfl rfl (by decide) (fun q hq => by rw [hfl]; exact S_X9_oldestSpan Y.1.2.1 v3 a1 M4 q hq) (cwV 1 hY.2.2.2.2.1 gX11_walker_X9_oldestSpan rfl rfl rfl (by decide +kernel) ⟨(by rw [hR]; exact Nat.le_of_ble_eq_true rfl), (by rw [hR]; exact Nat.le_of_ble_eq_true rfl)⟩) rfl (Nat.le_of_ble_eq_true rfl) ⟨(by rw [hR]; exact Nat.le_of_ble_eq_true rfl), (by rw [hR]; exact Nat.le_of_ble_eq_true rfl)⟩ (fun z11 M10 => ?_)
                  exact xv_ireti hY hfl dX11_walker_125 hret (Nat.le_of_ble_eq_true rfl) (Nat.le_of_ble_eq_true rfl)
                · refine xv_byif (fun h7 => ?_) (fun h7 => ?_)
                  · refine xv_swIn (off := 104) (t := 126) hY dX11_walker_22 (xv_inb_in hz) (by omega) (by omega) (by rw [h7]; rfl) (by decide) ?_
                    refine xv_aload_n rfl rfl hY dX11_walker_126 rfl ?_
                    refine xv_getP (ci := 9) (j := 6) hY dX11_walker_127 rfl rfl rfl (by decide) hin9 (by decide) rfl (List.mem_of_getElem? (i := 9) rfl) (fun v8 => ?_)
                    refine xv_iload_n rfl rfl hY dX11_walker_130 rfl ?_
                    refine xv_iald hY dX11_walker_131 rfl (fun v9 => ?_)
                    exact xv_ireti hY hfl dX11_walker_132 hret (Nat.le_of_ble_eq_true rfl) (Nat.le_of_ble_eq_true rfl)
                  · refine xv_byif (fun h8 => ?_) (fun h8 => ?_)
                    · refine xv_swIn (off := 111) (t := 133) hY dX11_walker_22 (xv_inb_in hz) (by omega) (by omega) (by rw [h8]; rfl) (by decide) ?_
                      refine xv_aload_n rfl rfl hY dX11_walker_133 rfl ?_
                      refine xv_getP (ci := 9) (j := 7) hY dX11_walker_134 rfl rfl rfl (by decide) hin9 (by decide) rfl (List.mem_of_getElem? (i := 10) rfl) (fun v6 => ?_)
                      refine xv_iload_n rfl rfl hY dX11_walker_137 rfl ?_
                      refine xv_iald hY dX11_walker_138 rfl (fun v7 => ?_)
                      exact xv_ireti hY hfl dX11_walker_139 hret (Nat.le_of_ble_eq_true rfl) (Nat.le_of_ble_eq_true rfl)
                    · refine xv_swOut hY dX11_walker_22 (xv_inb_in hz) (by omega) (t := 140) (by decide) ?_
                      refine xv_bipush (by decide) hY dX11_walker_140 rfl ?_
                      exact xv_ireti hY hfl dX11_walker_142 hret (Nat.le_of_ble_eq_true rfl) (Nat.le_of_ble_eq_true rfl)
  · refine xv_iconst hY dX11_walker_19 rfl ?_
    exact xv_ireti hY hfl dX11_walker_20 hret (Nat.le_of_ble_eq_true rfl) (Nat.le_of_ble_eq_true rfl)
set_option maxHeartbeats 4000000 in
set_option maxRecDepth 100000 in
theorem S_X11_memberAt (l : Launch) (a0 : Int64) (a1 : Int) (M : xv_M) (q : Int × xv_M) (h : D_X11_memberAt a0 a1 M = some q) : xv_Met l yX11_memberAt wsX11_memberAt rm_X11_memberAt 0 0 false [xl a0, xi a1] M (xv_qI false q) := by
  refine xv_enter (cc := cX11_memberAt) (nL := 5) (ret := (some .int)) rfl (by decide +kernel) (Nat.le_of_ble_eq_true rfl) h ?_
  intro Y hY0 hl hR hnL hfl hret hnm0
  have hY : xv_ok Y cX11_memberAt wsX11_memberAt RX11 := hY0
  unfold D_X11_memberAt
  refine xv_mk (L' := [some (xl a0), none, some (xi a1), none, none]) [true, true, true, true, true] rfl ?_
  refine xv_iconst hY dX11_memberAt_0 rfl ?_
  refine xv_istore_n (L' := [some (xl a0), none, some (xi a1), some (xi (0 : Int)), none]) hY dX11_memberAt_1 rfl rfl (by rw [hnL]; decide) rfl rfl ?_
  refine xv_iconst hY dX11_memberAt_2 rfl ?_
  refine xv_istore (L' := [some (xl a0), none, some (xi a1), some (xi (0 : Int)), some (xi (0 : Int))]) hY dX11_memberAt_3 rfl (by rw [hnL]; decide) rfl rfl ?_
  refine xv_mk (L' := [some (xl a0), none, some (xi a1), some (xi (0 : Int)), some (xi (0 : Int))]) [true, false, true, true, true] rfl ?_
  refine xv_loop (σ := Int × Int × xv_M) (fun x1 => [some (xl a0), none, some (xi a1), some (xi x1.1), some (xi x1.2.1)]) (fun x1 => x1.2.2) (fun f2 hf2 x1 => ?_) xv_fuel ((0 : Int), (0 : Int), M)
  refine xv_iload rfl hY dX11_memberAt_5 rfl ?_
  refine xv_bipush (by decide) hY dX11_memberAt_7 rfl ?_
  refine xv_icmp_ge (t := 38) hY dX11_memberAt_9 (by decide) rfl ?_ ?_
  · refine xv_bipush (by decide) hY dX11_memberAt_38 rfl ?_
    exact xv_ireti hY hfl dX11_memberAt_40 hret (Nat.le_of_ble_eq_true rfl) (Nat.le_of_ble_eq_true rfl)
  · refine xv_lload_n rfl rfl hY dX11_memberAt_12 rfl ?_
    refine xv_iload rfl hY dX11_memberAt_13 rfl ?_
    refine xv_callSI (y := yX11_isMember) (ws := wsX11_isMember) (rm := rm_X11_isMember) (mc := 0) (ms := 0) (n := 2) (av := [xl a0, xi x1.2.1]) hY dX11_memberAt_15 rfl rfl (fun q hq => by rw [hfl]; exact S_X11_isMember Y.1.2.1 a0 x1.2.1 x1.2.2 q hq) (va_cwS 2 hY.2.2.2.2.1 gX11_memberAt_X11_isMember rfl rfl rfl (by decide +kernel) ⟨(by rw [hR]; exact Nat.le_of_ble_eq_true rfl), (by rw [hR]; exact Nat.le_of_ble_eq_true rfl)⟩) rfl (Nat.le_of_ble_eq_true rfl) ⟨(by rw [hR]; exact Nat.le_of_ble_eq_true rfl), (by rw [hR]; exact Nat.le_of_ble_eq_true rfl)⟩ (fun z4 M3 => ?_)
    refine xv_join (α := Int) 32 (fun x5 => [some (xl a0), none, some (xi a1), some (xi x5), some (xi x1.2.1)]) (fun x5 => []) (fun x5 => M3) (fun x5 => ?_) (fun j6 hj6 => ?_)
    · refine xv_iinc (L' := [some (xl a0), none, some (xi a1), some (xi x5), some (xi (x1.2.1 + 1))]) hY dX11_memberAt_32 rfl (by rw [hnL]; decide) rfl rfl rfl ?_
      refine xv_goto (pc' := 5) hY dX11_memberAt_35 (by decide) ?_
      exact xv_mk (L' := [some (xl a0), none, some (xi a1), some (xi x5), some (xi (x1.2.1 + 1))]) [true, false, true, true, true] rfl (hf2 (x5, (x1.2.1 + 1), M3))
    · refine xv_if_eq (t := 32) hY dX11_memberAt_18 (by decide) rfl ?_ ?_
      · exact xv_mk (L' := [some (xl a0), none, some (xi a1), some (xi x1.1), some (xi x1.2.1)]) [true, false, true, true, true] rfl (hj6 x1.1)
      · refine xv_iload_n rfl rfl hY dX11_memberAt_21 rfl ?_
        refine xv_iload_n rfl rfl hY dX11_memberAt_22 rfl ?_
        refine xv_icmp_ne (t := 29) hY dX11_memberAt_23 (by decide) rfl ?_ ?_
        · refine xv_iinc (L' := [some (xl a0), none, some (xi a1), some (xi (x1.1 + 1)), some (xi x1.2.1)]) hY dX11_memberAt_29 rfl (by rw [hnL]; decide) rfl rfl rfl ?_
          exact xv_mk (L' := [some (xl a0), none, some (xi a1), some (xi (x1.1 + 1)), some (xi x1.2.1)]) [true, false, true, true, true] rfl (hj6 (x1.1 + 1))
        · refine xv_iload rfl hY dX11_memberAt_26 rfl ?_
          exact xv_ireti hY hfl dX11_memberAt_28 hret (Nat.le_of_ble_eq_true rfl) (Nat.le_of_ble_eq_true rfl)
set_option maxHeartbeats 4000000 in
set_option maxRecDepth 100000 in
theorem S_X11_inside (l : Launch) (a0 : Nat) (a1 : Int) (a2 : Int) (M : xv_M) (q : Int × xv_M) (h : D_X11_inside a0 a1 a2 M = some q) : xv_Met l yX11_inside wsX11_inside rm_X11_inside 0 0 false [xr a0, xi a1, xi a2] M (xv_qI false q) := by
  refine xv_enter (cc := cX11_inside) (nL := 4) (ret := (some .int)) rfl (by decide +kernel) (Nat.le_of_ble_eq_true rfl) h ?_
  intro Y hY0 hl hR hnL hfl hret hnm0
  have hY : xv_ok Y cX11_inside wsX11_inside RX11 := hY0
  have hin2 : ∀ w ∈ u_ws RX2 TX2 3, w ∈ wsX11_inside := fun _ h => List.mem_cons_of_mem _ (List.mem_append_left _ (List.mem_append_left _ (List.mem_append_right _ h)))
  have hin6 : ∀ w ∈ u_ws RX6 TX6 4, w ∈ wsX11_inside := fun _ h => List.mem_cons_of_mem _ (List.mem_append_left _ (List.mem_append_right _ h))
  have hin9 : ∀ w ∈ u_ws RX9 TX9 9, w ∈ wsX11_inside := fun _ h => List.mem_cons_of_mem _ (List.mem_append_right _ h)
  have hin11 : ∀ w ∈ u_ws RX11 TX11 6, w ∈ wsX11_inside := fun _ h => List.mem_cons_of_mem _ (List.mem_append_left _ (List.mem_append_left _ (List.mem_append_left _ (List.mem_append_right _ h))))
  unfold D_X11_inside
  refine xv_mk (L' := [some (xr a0), some (xi a1), some (xi a2), none]) [true, true, true, true] rfl ?_
  refine xv_aload_n rfl rfl hY dX11_inside_0 rfl ?_
  refine xv_getP (ci := 11) (j := 0) hY dX11_inside_1 rfl rfl rfl (by decide) hin11 (by decide) rfl (List.mem_of_getElem? (i := 1) rfl) (fun v1 => ?_)
  refine xv_getP (ci := 2) (j := 0) hY dX11_inside_4 rfl rfl rfl (by decide) hin2 (by decide) rfl (List.mem_of_getElem? (i := 2) rfl) (fun v2 => ?_)
  refine xv_getP (ci := 6) (j := 2) hY dX11_inside_7 rfl rfl rfl (by decide) hin6 (by decide) rfl (List.mem_of_getElem? (i := 3) rfl) (fun v3 => ?_)
  refine xv_astore_n (L' := [some (xr a0), some (xi a1), some (xi a2), some (xr v3)]) hY dX11_inside_10 rfl rfl (by rw [hnL]; decide) rfl rfl ?_
  refine xv_aload_n rfl rfl hY dX11_inside_11 rfl ?_
  refine xv_iload_n rfl rfl hY dX11_inside_12 rfl ?_
  refine xv_callVI (ci := 9) (y := yX9_has) (ws := wsX9_has) (rm := rm_X9_has) (mc := 0) (ms := 0) (n := 1) (av := [xi a1]) hY dX11_inside_13 rfl rfl rfl (by decide) (fun q hq => by rw [hfl]; exact S_X9_has Y.1.2.1 v3 a1 M q hq) (cwV 1 hY.2.2.2.2.1 gX11_inside_X9_has rfl rfl rfl (by decide +kernel) ⟨(by rw [hR]; exact Nat.le_of_ble_eq_true rfl), (by rw [hR]; exact Nat.le_of_ble_eq_true rfl)⟩) rfl (Nat.le_of_ble_eq_true rfl) ⟨(by rw [hR]; exact Nat.le_of_ble_eq_true rfl), (by rw [hR]; exact Nat.le_of_ble_eq_true rfl)⟩ (fun z5 M4 => ?_)
  refine xv_if_ne (t := 21) hY dX11_inside_16 (by decide) rfl ?_ ?_
  · refine xv_iload_n rfl rfl hY dX11_inside_21 rfl ?_
    refine xv_if_ge (t := 28) hY dX11_inside_22 (by decide) rfl ?_ ?_
    · refine xv_aload_n rfl rfl hY dX11_inside_28 rfl ?_
      refine xv_getP (ci := 9) (j := 3) hY dX11_inside_29 rfl rfl rfl (by decide) hin9 (by decide) rfl (List.mem_of_getElem? (i := 4) rfl) (fun v6 => ?_)
      refine xv_iload_n rfl rfl hY dX11_inside_32 rfl ?_
      refine xv_lald hY dX11_inside_33 rfl (fun v7 => ?_)
      refine xv_iload_n rfl rfl hY dX11_inside_34 rfl ?_
      refine xv_callSI (y := yX11_memberAt) (ws := wsX11_memberAt) (rm := rm_X11_memberAt) (mc := 0) (ms := 0) (n := 2) (av := [xl v7, xi a2]) hY dX11_inside_35 rfl rfl (fun q hq => by rw [hfl]; exact S_X11_memberAt Y.1.2.1 v7 a2 M4 q hq) (va_cwS 2 hY.2.2.2.2.1 gX11_inside_X11_memberAt rfl rfl rfl (by decide +kernel) ⟨(by rw [hR]; exact Nat.le_of_ble_eq_true rfl), (by rw [hR]; exact Nat.le_of_ble_eq_true rfl)⟩) rfl (Nat.le_of_ble_eq_true rfl) ⟨(by rw [hR]; exact Nat.le_of_ble_eq_true rfl), (by rw [hR]; exact Nat.le_of_ble_eq_true rfl)⟩ (fun z9 M8 => ?_)
      exact xv_ireti hY hfl dX11_inside_38 hret (Nat.le_of_ble_eq_true rfl) (Nat.le_of_ble_eq_true rfl)
    · refine xv_bipush (by decide) hY dX11_inside_25 rfl ?_
      exact xv_ireti hY hfl dX11_inside_27 hret (Nat.le_of_ble_eq_true rfl) (Nat.le_of_ble_eq_true rfl)
  · refine xv_iconst hY dX11_inside_19 rfl ?_
    exact xv_ireti hY hfl dX11_inside_20 hret (Nat.le_of_ble_eq_true rfl) (Nat.le_of_ble_eq_true rfl)
set_option maxHeartbeats 4000000 in
set_option maxRecDepth 100000 in
theorem S_X11_ask (l : Launch) (a0 : Nat) (a1 : Int) (a2 : Int) (M : xv_M) (q : Int × xv_M) (h : D_X11_ask a0 a1 a2 M = some q) : xv_Met l yX11_ask wsX11_ask rm_X11_ask 0 0 false [xr a0, xi a1, xi a2] M (xv_qI false q) := by
  refine xv_enter (cc := cX11_ask) (nL := 3) (ret := (some .int)) rfl (by decide +kernel) (Nat.le_of_ble_eq_true rfl) h ?_
  intro Y hY0 hl hR hnL hfl hret hnm0
  have hY : xv_ok Y cX11_ask wsX11_ask RX11 := hY0
  have hin2 : ∀ w ∈ u_ws RX2 TX2 3, w ∈ wsX11_ask := fun _ h => List.mem_cons_of_mem _ (List.mem_append_left _ (List.mem_append_left _ (List.mem_append_left _ (List.mem_append_left _ (List.mem_append_left _ (List.mem_append_right _ h))))))
  have hin6 : ∀ w ∈ u_ws RX6 TX6 4, w ∈ wsX11_ask := fun _ h => List.mem_cons_of_mem _ (List.mem_append_left _ (List.mem_append_left _ (List.mem_append_left _ (List.mem_append_left _ (List.mem_append_right _ h)))))
  have hin11 : ∀ w ∈ u_ws RX11 TX11 6, w ∈ wsX11_ask := fun _ h => List.mem_cons_of_mem _ (List.mem_append_left _ (List.mem_append_left _ (List.mem_append_left _ (List.mem_append_left _ (List.mem_append_left _ (List.mem_append_left _ (List.mem_append_right _ h)))))))
  unfold D_X11_ask
  refine xv_mk (L' := [some (xr a0), some (xi a1), some (xi a2)]) [true, true, true] rfl ?_
  refine xv_iload_n rfl rfl hY dX11_ask_0 rfl ?_
  refine xv_callSI (y := yX11_isPlace) (ws := wsX11_isPlace) (rm := rm_X11_isPlace) (mc := 0) (ms := 0) (n := 1) (av := [xi a1]) hY dX11_ask_1 rfl rfl (fun q hq => by rw [hfl]; exact S_X11_isPlace Y.1.2.1 a1 M q hq) (va_cwS 1 hY.2.2.2.2.1 gX11_ask_X11_isPlace rfl rfl rfl (by decide +kernel) ⟨(by rw [hR]; exact Nat.le_of_ble_eq_true rfl), (by rw [hR]; exact Nat.le_of_ble_eq_true rfl)⟩) rfl (Nat.le_of_ble_eq_true rfl) ⟨(by rw [hR]; exact Nat.le_of_ble_eq_true rfl), (by rw [hR]; exact Nat.le_of_ble_eq_true rfl)⟩ (fun z2 M1 => ?_)
  refine xv_if_ne (t := 10) hY dX11_ask_4 (by decide) rfl ?_ ?_
  · refine xv_iload_n rfl rfl hY dX11_ask_10 rfl ?_
    refine xv_byg (fun hz => ?_)
    refine xv_byif (fun h0 => ?_) (fun h0 => ?_)
    · refine xv_swIn (off := 33) (t := 44) hY dX11_ask_11 (xv_inb_in hz) (by omega) (by omega) (by rw [h0]; rfl) (by decide) ?_
      refine xv_aload_n rfl rfl hY dX11_ask_44 rfl ?_
      refine xv_getP (ci := 11) (j := 0) hY dX11_ask_45 rfl rfl rfl (by decide) hin11 (by decide) rfl (List.mem_of_getElem? (i := 1) rfl) (fun v29 => ?_)
      refine xv_getP (ci := 2) (j := 1) hY dX11_ask_48 rfl rfl rfl (by decide) hin2 (by decide) rfl (List.mem_of_getElem? (i := 2) rfl) (fun v30 => ?_)
      refine xv_iload_n rfl rfl hY dX11_ask_51 rfl ?_
      refine xv_callVJ (ci := 0) (y := yX0_over) (ws := wsX0_over) (rm := rm_X0_over) (mc := 0) (ms := 0) (n := 1) (av := [xi a1]) hY dX11_ask_52 rfl rfl rfl (by decide) (fun q hq => by rw [hfl]; exact S_X0_over Y.1.2.1 v30 a1 M1 q hq) (cwV 1 hY.2.2.2.2.1 gX11_ask_X0_over rfl rfl rfl (by decide +kernel) ⟨(by rw [hR]; exact Nat.le_of_ble_eq_true rfl), (by rw [hR]; exact Nat.le_of_ble_eq_true rfl)⟩) rfl (Nat.le_of_ble_eq_true rfl) ⟨(by rw [hR]; exact Nat.le_of_ble_eq_true rfl), (by rw [hR]; exact Nat.le_of_ble_eq_true rfl)⟩ (fun z32 M31 => ?_)
      refine xv_callSI (y := yJ13_bitCount_95d88) (ws := wsJ13_bitCount_95d88) (rm := rm_J13_bitCount_95d88) (mc := 0) (ms := 0) (n := 1) (av := [xl z32]) hY dX11_ask_55 rfl rfl (fun q hq => by rw [hfl]; exact S_J13_bitCount_95d88 Y.1.2.1 z32 M31 q hq) (va_cwS 1 hY.2.2.2.2.1 gX11_ask_J13_bitCount_95d88 rfl rfl rfl (by decide +kernel) ⟨(by rw [hR]; exact Nat.le_of_ble_eq_true rfl), (by rw [hR]; exact Nat.le_of_ble_eq_true rfl)⟩) rfl (Nat.le_of_ble_eq_true rfl) ⟨(by rw [hR]; exact Nat.le_of_ble_eq_true rfl), (by rw [hR]; exact Nat.le_of_ble_eq_true rfl)⟩ (fun z34 M33 => ?_)
      exact xv_ireti hY hfl dX11_ask_58 hret (Nat.le_of_ble_eq_true rfl) (Nat.le_of_ble_eq_true rfl)
    · refine xv_byif (fun h1 => ?_) (fun h1 => ?_)
      · refine xv_swIn (off := 48) (t := 59) hY dX11_ask_11 (xv_inb_in hz) (by omega) (by omega) (by rw [h1]; rfl) (by decide) ?_
        refine xv_aload_n rfl rfl hY dX11_ask_59 rfl ?_
        refine xv_getP (ci := 11) (j := 0) hY dX11_ask_60 rfl rfl rfl (by decide) hin11 (by decide) rfl (List.mem_of_getElem? (i := 1) rfl) (fun v25 => ?_)
        refine xv_getP (ci := 2) (j := 2) hY dX11_ask_63 rfl rfl rfl (by decide) hin2 (by decide) rfl (List.mem_of_getElem? (i := 3) rfl) (fun v26 => ?_)
        refine xv_iload_n rfl rfl hY dX11_ask_66 rfl ?_
        refine xv_callVI (ci := 8) (y := yX8_nodesOnWay) (ws := wsX8_nodesOnWay) (rm := rm_X8_nodesOnWay) (mc := 0) (ms := 0) (n := 1) (av := [xi a1]) hY dX11_ask_67 rfl rfl rfl (by decide) (fun q hq => by rw [hfl]; exact S_X8_nodesOnWay Y.1.2.1 v26 a1 M1 q hq) (cwV 1 hY.2.2.2.2.1 gX11_ask_X8_nodesOnWay rfl rfl rfl (by decide +kernel) ⟨(by rw [hR]; exact Nat.le_of_ble_eq_true rfl), (by rw [hR]; exact Nat.le_of_ble_eq_true rfl)⟩) rfl (Nat.le_of_ble_eq_true rfl) ⟨(by rw [hR]; exact Nat.le_of_ble_eq_true rfl), (by rw [hR]; exact Nat.le_of_ble_eq_true rfl)⟩ (fun z28 M27 => ?_)
        exact xv_ireti hY hfl dX11_ask_70 hret (Nat.le_of_ble_eq_true rfl) (Nat.le_of_ble_eq_true rfl)
      · refine xv_byif (fun h2 => ?_) (fun h2 => ?_)
        · refine xv_swIn (off := 60) (t := 71) hY dX11_ask_11 (xv_inb_in hz) (by omega) (by omega) (by rw [h2]; rfl) (by decide) ?_
          refine xv_aload_n rfl rfl hY dX11_ask_71 rfl ?_
          refine xv_getP (ci := 11) (j := 0) hY dX11_ask_72 rfl rfl rfl (by decide) hin11 (by decide) rfl (List.mem_of_getElem? (i := 1) rfl) (fun v18 => ?_)
          refine xv_getP (ci := 2) (j := 2) hY dX11_ask_75 rfl rfl rfl (by decide) hin2 (by decide) rfl (List.mem_of_getElem? (i := 3) rfl) (fun v19 => ?_)
          refine xv_iload_n rfl rfl hY dX11_ask_78 rfl ?_
          refine xv_aload_n rfl rfl hY dX11_ask_79 rfl ?_
          refine xv_getP (ci := 11) (j := 0) hY dX11_ask_80 rfl rfl rfl (by decide) hin11 (by decide) rfl (List.mem_of_getElem? (i := 1) rfl) (fun v20 => ?_)
          refine xv_getP (ci := 2) (j := 0) hY dX11_ask_83 rfl rfl rfl (by decide) hin2 (by decide) rfl (List.mem_of_getElem? (i := 4) rfl) (fun v21 => ?_)
          refine xv_getP (ci := 6) (j := 1) hY dX11_ask_86 rfl rfl rfl (by decide) hin6 (by decide) rfl (List.mem_of_getElem? (i := 5) rfl) (fun v22 => ?_)
          refine xv_callVI (ci := 8) (y := yX8_spansLookedAt) (ws := wsX8_spansLookedAt) (rm := rm_X8_spansLookedAt) (mc := 0) (ms := 0) (n := 2) (av := [xi a1, xr v22]) hY dX11_ask_89 rfl rfl rfl (by decide) (fun q hq => by rw [hfl]; exact S_X8_spansLookedAt Y.1.2.1 v19 a1 v22 M1 q hq) (cwV 2 hY.2.2.2.2.1 gX11_ask_X8_spansLookedAt rfl rfl rfl (by decide +kernel) ⟨(by rw [hR]; exact Nat.le_of_ble_eq_true rfl), (by rw [hR]; exact Nat.le_of_ble_eq_true rfl)⟩) rfl (Nat.le_of_ble_eq_true rfl) ⟨(by rw [hR]; exact Nat.le_of_ble_eq_true rfl), (by rw [hR]; exact Nat.le_of_ble_eq_true rfl)⟩ (fun z24 M23 => ?_)
          exact xv_ireti hY hfl dX11_ask_92 hret (Nat.le_of_ble_eq_true rfl) (Nat.le_of_ble_eq_true rfl)
        · refine xv_byif (fun h3 => ?_) (fun h3 => ?_)
          · refine xv_swIn (off := 82) (t := 93) hY dX11_ask_11 (xv_inb_in hz) (by omega) (by omega) (by rw [h3]; rfl) (by decide) ?_
            refine xv_aload_n rfl rfl hY dX11_ask_93 rfl ?_
            refine xv_getP (ci := 11) (j := 0) hY dX11_ask_94 rfl rfl rfl (by decide) hin11 (by decide) rfl (List.mem_of_getElem? (i := 1) rfl) (fun v12 => ?_)
            refine xv_getP (ci := 2) (j := 1) hY dX11_ask_97 rfl rfl rfl (by decide) hin2 (by decide) rfl (List.mem_of_getElem? (i := 2) rfl) (fun v13 => ?_)
            refine xv_iload_n rfl rfl hY dX11_ask_100 rfl ?_
            refine xv_callVJ (ci := 0) (y := yX0_over) (ws := wsX0_over) (rm := rm_X0_over) (mc := 0) (ms := 0) (n := 1) (av := [xi a1]) hY dX11_ask_101 rfl rfl rfl (by decide) (fun q hq => by rw [hfl]; exact S_X0_over Y.1.2.1 v13 a1 M1 q hq) (cwV 1 hY.2.2.2.2.1 gX11_ask_X0_over rfl rfl rfl (by decide +kernel) ⟨(by rw [hR]; exact Nat.le_of_ble_eq_true rfl), (by rw [hR]; exact Nat.le_of_ble_eq_true rfl)⟩) rfl (Nat.le_of_ble_eq_true rfl) ⟨(by rw [hR]; exact Nat.le_of_ble_eq_true rfl), (by rw [hR]; exact Nat.le_of_ble_eq_true rfl)⟩ (fun z15 M14 => ?_)
            refine xv_iconst hY dX11_ask_104 rfl ?_
            refine xv_callSI (y := yX11_memberAt) (ws := wsX11_memberAt) (rm := rm_X11_memberAt) (mc := 0) (ms := 0) (n := 2) (av := [xl z15, xi (0 : Int)]) hY dX11_ask_105 rfl rfl (fun q hq => by rw [hfl]; exact S_X11_memberAt Y.1.2.1 z15 (0 : Int) M14 q hq) (va_cwS 2 hY.2.2.2.2.1 gX11_ask_X11_memberAt rfl rfl rfl (by decide +kernel) ⟨(by rw [hR]; exact Nat.le_of_ble_eq_true rfl), (by rw [hR]; exact Nat.le_of_ble_eq_true rfl)⟩) rfl (Nat.le_of_ble_eq_true rfl) ⟨(by rw [hR]; exact Nat.le_of_ble_eq_true rfl), (by rw [hR]; exact Nat.le_of_ble_eq_true rfl)⟩ (fun z17 M16 => ?_)
            exact xv_ireti hY hfl dX11_ask_108 hret (Nat.le_of_ble_eq_true rfl) (Nat.le_of_ble_eq_true rfl)
          · refine xv_byif (fun h4 => ?_) (fun h4 => ?_)
            · refine xv_swIn (off := 98) (t := 109) hY dX11_ask_11 (xv_inb_in hz) (by omega) (by omega) (by rw [h4]; rfl) (by decide) ?_
              refine xv_aload_n rfl rfl hY dX11_ask_109 rfl ?_
              refine xv_getP (ci := 11) (j := 0) hY dX11_ask_110 rfl rfl rfl (by decide) hin11 (by decide) rfl (List.mem_of_getElem? (i := 1) rfl) (fun v3 => ?_)
              refine xv_getP (ci := 2) (j := 0) hY dX11_ask_113 rfl rfl rfl (by decide) hin2 (by decide) rfl (List.mem_of_getElem? (i := 4) rfl) (fun v4 => ?_)
              refine xv_getP (ci := 6) (j := 1) hY dX11_ask_116 rfl rfl rfl (by decide) hin6 (by decide) rfl (List.mem_of_getElem? (i := 5) rfl) (fun v5 => ?_)
              refine xv_aload_n rfl rfl hY dX11_ask_119 rfl ?_
              refine xv_getP (ci := 11) (j := 0) hY dX11_ask_120 rfl rfl rfl (by decide) hin11 (by decide) rfl (List.mem_of_getElem? (i := 1) rfl) (fun v6 => ?_)
              refine xv_getP (ci := 2) (j := 1) hY dX11_ask_123 rfl rfl rfl (by decide) hin2 (by decide) rfl (List.mem_of_getElem? (i := 2) rfl) (fun v7 => ?_)
              refine xv_iload_n rfl rfl hY dX11_ask_126 rfl ?_
              refine xv_callVJ (ci := 0) (y := yX0_over) (ws := wsX0_over) (rm := rm_X0_over) (mc := 0) (ms := 0) (n := 1) (av := [xi a1]) hY dX11_ask_127 rfl rfl rfl (by decide) (fun q hq => by rw [hfl]; exact S_X0_over Y.1.2.1 v7 a1 M1 q hq) (cwV 1 hY.2.2.2.2.1 gX11_ask_X0_over rfl rfl rfl (by decide +kernel) ⟨(by rw [hR]; exact Nat.le_of_ble_eq_true rfl), (by rw [hR]; exact Nat.le_of_ble_eq_true rfl)⟩) rfl (Nat.le_of_ble_eq_true rfl) ⟨(by rw [hR]; exact Nat.le_of_ble_eq_true rfl), (by rw [hR]; exact Nat.le_of_ble_eq_true rfl)⟩ (fun z9 M8 => ?_)
              refine xv_callVI (ci := 5) (y := yX5_shortestOf) (ws := wsX5_shortestOf) (rm := rm_X5_shortestOf) (mc := 0) (ms := 0) (n := 1) (av := [xl z9]) hY dX11_ask_130 rfl rfl rfl (by decide) (fun q hq => by rw [hfl]; exact S_X5_shortestOf Y.1.2.1 v5 z9 M8 q hq) (cwV 1 hY.2.2.2.2.1 gX11_ask_X5_shortestOf rfl rfl rfl (by decide +kernel) ⟨(by rw [hR]; exact Nat.le_of_ble_eq_true rfl), (by rw [hR]; exact Nat.le_of_ble_eq_true rfl)⟩) rfl (Nat.le_of_ble_eq_true rfl) ⟨(by rw [hR]; exact Nat.le_of_ble_eq_true rfl), (by rw [hR]; exact Nat.le_of_ble_eq_true rfl)⟩ (fun z11 M10 => ?_)
              exact xv_ireti hY hfl dX11_ask_133 hret (Nat.le_of_ble_eq_true rfl) (Nat.le_of_ble_eq_true rfl)
            · refine xv_swOut hY dX11_ask_11 (xv_inb_in hz) (by omega) (t := 134) (by decide) ?_
              refine xv_bipush (by decide) hY dX11_ask_134 rfl ?_
              exact xv_ireti hY hfl dX11_ask_136 hret (Nat.le_of_ble_eq_true rfl) (Nat.le_of_ble_eq_true rfl)
  · refine xv_bipush (by decide) hY dX11_ask_7 rfl ?_
    exact xv_ireti hY hfl dX11_ask_9 hret (Nat.le_of_ble_eq_true rfl) (Nat.le_of_ble_eq_true rfl)
