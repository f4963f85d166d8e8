set_option maxHeartbeats 4000000 in
set_option maxRecDepth 100000 in
theorem S_X5_shortestOf (l : Launch) (a0 : Nat) (a1 : Int64) (M : xv_M) (q : Int × xv_M) (h : D_X5_shortestOf a0 a1 M = some q) : xv_Met l yX5_shortestOf wsX5_shortestOf rm_X5_shortestOf 0 0 false [xr a0, xl a1] M (xv_qI false q) := by
  refine xv_enter (cc := cX5_shortestOf) (nL := 7) (ret := (some .int)) rfl (by decide +kernel) (Nat.le_of_ble_eq_true rfl) h ?_
  intro Y hY0 hl hR hnL hfl hret hnm0
  have hY : xv_ok Y cX5_shortestOf wsX5_shortestOf RX5 := hY0
  have hin5 : ∀ w ∈ u_ws RX5 TX5 8, w ∈ wsX5_shortestOf := fun _ h => List.mem_cons_of_mem _ (List.mem_append_right _ h)
  unfold D_X5_shortestOf
  refine xv_mk (L' := [some (xr a0), some (xl a1), none, none, none, none, none]) [true, true, true, true, true, true, true] rfl ?_
  refine xv_bipush (by decide) hY dX5_shortestOf_0 rfl ?_
  refine xv_istore_n (L' := [some (xr a0), some (xl a1), none, some (xi (-5 : Int)), none, none, none]) hY dX5_shortestOf_2 rfl rfl (by rw [hnL]; decide) rfl rfl ?_
  refine xv_sipush (by decide) hY dX5_shortestOf_3 rfl ?_
  refine xv_istore (L' := [some (xr a0), some (xl a1), none, some (xi (-5 : Int)), some (xi (1002 : Int)), none, none]) hY dX5_shortestOf_6 rfl (by rw [hnL]; decide) rfl rfl ?_
  refine xv_iconst hY dX5_shortestOf_8 rfl ?_
  refine xv_istore (L' := [some (xr a0), some (xl a1), none, some (xi (-5 : Int)), some (xi (1002 : Int)), some (xi (0 : Int)), none]) hY dX5_shortestOf_9 rfl (by rw [hnL]; decide) rfl rfl ?_
  refine xv_mk (L' := [some (xr a0), some (xl a1), none, some (xi (-5 : Int)), some (xi (1002 : Int)), some (xi (0 : Int)), none]) [true, true, false, true, true, true, false] rfl ?_
  refine xv_loop (σ := Int × Int × Int × xv_M) (fun x1 => [some (xr a0), some (xl a1), none, some (xi x1.1), some (xi x1.2.1), some (xi x1.2.2.1), none]) (fun x1 => x1.2.2.2) (fun f2 hf2 x1 => ?_) xv_fuel ((-5 : Int), (1002 : Int), (0 : Int), M)
  refine xv_iload rfl hY dX5_shortestOf_11 rfl ?_
  refine xv_aload_n rfl rfl hY dX5_shortestOf_13 rfl ?_
  refine xv_getI (ci := 5) (j := 0) hY dX5_shortestOf_14 rfl rfl rfl (by decide) hin5 (by decide) rfl (List.mem_of_getElem? (i := 1) rfl) (fun v3 => ?_)
  refine xv_icmp_ge (t := 68) hY dX5_shortestOf_17 (by decide) rfl ?_ ?_
  · refine xv_iload_n rfl rfl hY dX5_shortestOf_68 rfl ?_
    exact xv_ireti hY hfl dX5_shortestOf_69 hret (Nat.le_of_ble_eq_true rfl) (Nat.le_of_ble_eq_true rfl)
  · refine xv_aload_n rfl rfl hY dX5_shortestOf_20 rfl ?_
    refine xv_getP (ci := 5) (j := 5) hY dX5_shortestOf_21 rfl rfl rfl (by decide) hin5 (by decide) rfl (List.mem_of_getElem? (i := 2) rfl) (fun v4 => ?_)
    refine xv_iload rfl hY dX5_shortestOf_24 rfl ?_
    refine xv_iald hY dX5_shortestOf_26 rfl (fun v5 => ?_)
    refine xv_aload_n rfl rfl hY dX5_shortestOf_27 rfl ?_
    refine xv_getP (ci := 5) (j := 4) hY dX5_shortestOf_28 rfl rfl rfl (by decide) hin5 (by decide) rfl (List.mem_of_getElem? (i := 3) rfl) (fun v6 => ?_)
    refine xv_iload rfl hY dX5_shortestOf_31 rfl ?_
    refine xv_iald hY dX5_shortestOf_33 rfl (fun v7 => ?_)
    refine xv_isub hY dX5_shortestOf_34 rfl ?_
    refine xv_iconst hY dX5_shortestOf_35 rfl ?_
    refine xv_iadd hY dX5_shortestOf_36 rfl ?_
    refine xv_istore (L' := [some (xr a0), some (xl a1), none, some (xi x1.1), some (xi x1.2.1), some (xi x1.2.2.1), some (xi ((v5 - v7) + (1 : Int)))]) hY dX5_shortestOf_37 rfl (by rw [hnL]; decide) rfl rfl ?_
    refine xv_lload_n rfl rfl hY dX5_shortestOf_39 rfl ?_
    refine xv_iload rfl hY dX5_shortestOf_40 rfl ?_
    refine xv_callSNI (y := yX11_isMember) (ws := wsX11_isMember) (rm := rm_X11_isMember) (mc := 0) (ms := 0) (n := 2) (av := [xl a1, xi x1.2.2.1]) hY dX5_shortestOf_42 rfl rfl (fun q hq => by rw [hfl]; exact S_X11_isMember Y.1.2.1 a1 x1.2.2.1 x1.2.2.2 q hq) ⟨va_cnB 2 hY.2.2.2.2.1 gX5_shortestOf_X11_isMember_n42 rfl rfl rfl (hY.2.2.2.2.2.1.2.1 _ (List.mem_of_getElem? (i := 12) rfl)) (hY.2.2.2.2.1 _ (by decide +kernel)) (by decide +kernel) ⟨(by rw [hR]; exact Nat.le_of_ble_eq_true rfl), (by rw [hR]; exact Nat.le_of_ble_eq_true rfl)⟩, hY.2.2.2.2.1 _ (by decide +kernel), trivial⟩ rfl (Nat.le_of_ble_eq_true rfl) ⟨(by rw [hR]; exact Nat.le_of_ble_eq_true rfl), (by rw [hR]; exact Nat.le_of_ble_eq_true rfl)⟩ (fun z9 M8 => ?_)
    refine xv_join (α := Int × Int) 62 (fun x10 => [some (xr a0), some (xl a1), none, some (xi x10.1), some (xi x10.2), some (xi x1.2.2.1), none]) (fun x10 => []) (fun x10 => M8) (fun x10 => ?_) (fun j11 hj11 => ?_)
    · refine xv_iinc (L' := [some (xr a0), some (xl a1), none, some (xi x10.1), some (xi x10.2), some (xi (x1.2.2.1 + 1)), none]) hY dX5_shortestOf_62 rfl (by rw [hnL]; decide) rfl rfl rfl ?_
      refine xv_goto (pc' := 11) hY dX5_shortestOf_65 (by decide) ?_
      exact xv_mk (L' := [some (xr a0), some (xl a1), none, some (xi x10.1), some (xi x10.2), some (xi (x1.2.2.1 + 1)), none]) [true, true, false, true, true, true, false] rfl (hf2 (x10.1, x10.2, (x1.2.2.1 + 1), M8))
    · refine xv_if_eq (t := 62) hY dX5_shortestOf_45 (by decide) rfl ?_ ?_
      · exact xv_mk (L' := [some (xr a0), some (xl a1), none, some (xi x1.1), some (xi x1.2.1), some (xi x1.2.2.1), none]) [true, true, false, true, true, true, false] rfl (hj11 (x1.1, x1.2.1))
      · refine xv_iload rfl hY dX5_shortestOf_48 rfl ?_
        refine xv_iload rfl hY dX5_shortestOf_50 rfl ?_
        refine xv_icmp_ge (t := 62) hY dX5_shortestOf_52 (by decide) rfl ?_ ?_
        · exact xv_mk (L' := [some (xr a0), some (xl a1), none, some (xi x1.1), some (xi x1.2.1), some (xi x1.2.2.1), none]) [true, true, false, true, true, true, false] rfl (hj11 (x1.1, x1.2.1))
        · refine xv_iload rfl hY dX5_shortestOf_55 rfl ?_
          refine xv_istore_n (L' := [some (xr a0), some (xl a1), none, some (xi x1.2.2.1), some (xi x1.2.1), some (xi x1.2.2.1), some (xi ((v5 - v7) + (1 : Int)))]) hY dX5_shortestOf_57 rfl rfl (by rw [hnL]; decide) rfl rfl ?_
          refine xv_iload rfl hY dX5_shortestOf_58 rfl ?_
          refine xv_istore (L' := [some (xr a0), some (xl a1), none, some (xi x1.2.2.1), some (xi ((v5 - v7) + (1 : Int))), some (xi x1.2.2.1), some (xi ((v5 - v7) + (1 : Int)))]) hY dX5_shortestOf_60 rfl (by rw [hnL]; decide) rfl rfl ?_
          exact xv_mk (L' := [some (xr a0), some (xl a1), none, some (xi x1.2.2.1), some (xi ((v5 - v7) + (1 : Int))), some (xi x1.2.2.1), none]) [true, true, false, true, true, true, false] rfl (hj11 (x1.2.2.1, ((v5 - v7) + (1 : Int))))
set_option maxHeartbeats 4000000 in
set_option maxRecDepth 100000 in
theorem S_X5_countPairs (l : Launch) (a0 : Nat) (M : xv_M) (q : Int × xv_M) (h : D_X5_countPairs a0 M = some q) : xv_Met l yX5_countPairs wsX5_countPairs rm_X5_countPairs 0 0 false [xr a0] M (xv_qI false q) := by
  refine xv_enter (cc := cX5_countPairs) (nL := 4) (ret := (some .int)) rfl (by decide +kernel) (Nat.le_of_ble_eq_true rfl) h ?_
  intro Y hY0 hl hR hnL hfl hret hnm0
  have hY : xv_ok Y cX5_countPairs wsX5_countPairs RX5 := hY0
  have hin5 : ∀ w ∈ u_ws RX5 TX5 8, w ∈ wsX5_countPairs := fun _ h => List.mem_cons_of_mem _ (List.mem_append_right _ h)
  unfold D_X5_countPairs
  refine xv_mk (L' := [some (xr a0), none, none, none]) [true, true, true, true] rfl ?_
  refine xv_iconst hY dX5_countPairs_0 rfl ?_
  refine xv_istore_n (L' := [some (xr a0), some (xi (0 : Int)), none, none]) hY dX5_countPairs_1 rfl rfl (by rw [hnL]; decide) rfl rfl ?_
  refine xv_iconst hY dX5_countPairs_2 rfl ?_
  refine xv_istore_n (L' := [some (xr a0), some (xi (0 : Int)), some (xi (0 : Int)), none]) hY dX5_countPairs_3 rfl rfl (by rw [hnL]; decide) rfl rfl ?_
  refine xv_mk (L' := [some (xr a0), some (xi (0 : Int)), some (xi (0 : Int)), none]) [true, true, true, false] rfl ?_
  refine xv_loop (σ := Int × Int × xv_M) (fun x1 => [some (xr a0), some (xi x1.1), some (xi x1.2.1), none]) (fun x1 => x1.2.2) (fun f2 hf2 x1 => ?_) xv_fuel ((0 : Int), (0 : Int), M)
  refine xv_iload_n rfl rfl hY dX5_countPairs_4 rfl ?_
  refine xv_aload_n rfl rfl hY dX5_countPairs_5 rfl ?_
  refine xv_getI (ci := 5) (j := 0) hY dX5_countPairs_6 rfl rfl rfl (by decide) hin5 (by decide) rfl (List.mem_of_getElem? (i := 1) rfl) (fun v3 => ?_)
  refine xv_icmp_ge (t := 80) hY dX5_countPairs_9 (by decide) rfl ?_ ?_
  · refine xv_iload_n rfl rfl hY dX5_countPairs_80 rfl ?_
    exact xv_ireti hY hfl dX5_countPairs_81 hret (Nat.le_of_ble_eq_true rfl) (Nat.le_of_ble_eq_true rfl)
  · refine xv_iconst hY dX5_countPairs_12 rfl ?_
    refine xv_istore_n (L' := [some (xr a0), some (xi x1.1), some (xi x1.2.1), some (xi (0 : Int))]) hY dX5_countPairs_13 rfl rfl (by rw [hnL]; decide) rfl rfl ?_
    refine xv_mk (L' := [some (xr a0), some (xi x1.1), some (xi x1.2.1), some (xi (0 : Int))]) [true, true, true, true] rfl ?_
    refine xv_loop (σ := Int × Int × xv_M) (fun x4 => [some (xr a0), some (xi x4.1), some (xi x1.2.1), some (xi x4.2.1)]) (fun x4 => x4.2.2) (fun f5 hf5 x4 => ?_) xv_fuel (x1.1, (0 : Int), x1.2.2)
    refine xv_iload_n rfl rfl hY dX5_countPairs_14 rfl ?_
    refine xv_iload_n rfl rfl hY dX5_countPairs_15 rfl ?_
    refine xv_icmp_ge (t := 74) hY dX5_countPairs_16 (by decide) rfl ?_ ?_
    · refine xv_iinc (L' := [some (xr a0), some (xi x4.1), some (xi (x1.2.1 + 1)), some (xi x4.2.1)]) hY dX5_countPairs_74 rfl (by rw [hnL]; decide) rfl rfl rfl ?_
      refine xv_goto (pc' := 4) hY dX5_countPairs_77 (by decide) ?_
      exact xv_mk (L' := [some (xr a0), some (xi x4.1), some (xi (x1.2.1 + 1)), none]) [true, true, true, false] rfl (hf2 (x4.1, (x1.2.1 + 1), x4.2.2))
    · refine xv_aload_n rfl rfl hY dX5_countPairs_19 rfl ?_
      refine xv_iload_n rfl rfl hY dX5_countPairs_20 rfl ?_
      refine xv_callVI (ci := 5) (y := yX5_isThere) (ws := wsX5_isThere) (rm := rm_X5_isThere) (mc := 0) (ms := 0) (n := 1) (av := [xi x1.2.1]) hY dX5_countPairs_21 rfl rfl rfl (by decide) (fun q hq => by rw [hfl]; exact S_X5_isThere Y.1.2.1 a0 x1.2.1 x4.2.2 q hq) (cwV 1 hY.2.2.2.2.1 gX5_countPairs_X5_isThere rfl rfl rfl (by decide +kernel) ⟨(by rw [hR]; exact Nat.le_of_ble_eq_true rfl), (by rw [hR]; exact Nat.le_of_ble_eq_true rfl)⟩) rfl (Nat.le_of_ble_eq_true rfl) ⟨(by rw [hR]; exact Nat.le_of_ble_eq_true rfl), (by rw [hR]; exact Nat.le_of_ble_eq_true rfl)⟩ (fun z7 M6 => ?_)
      refine xv_join (α := Int × xv_M) 68 (fun x8 => [some (xr a0), some (xi x8.1), some (xi x1.2.1), some (xi x4.2.1)]) (fun x8 => []) (fun x8 => x8.2) (fun x8 => ?_) (fun j9 hj9 => ?_)
      · refine xv_iinc (L' := [some (xr a0), some (xi x8.1), some (xi x1.2.1), some (xi (x4.2.1 + 1))]) hY dX5_countPairs_68 rfl (by rw [hnL]; decide) rfl rfl rfl ?_
        refine xv_goto (pc' := 14) hY dX5_countPairs_71 (by decide) ?_
        exact xv_mk (L' := [some (xr a0), some (xi x8.1), some (xi x1.2.1), some (xi (x4.2.1 + 1))]) [true, true, true, true] rfl (hf5 (x8.1, (x4.2.1 + 1), x8.2))
      · refine xv_if_eq (t := 68) hY dX5_countPairs_24 (by decide) rfl ?_ ?_
        · exact xv_mk (L' := [some (xr a0), some (xi x4.1), some (xi x1.2.1), some (xi x4.2.1)]) [true, true, true, true] rfl (hj9 (x4.1, M6))
        · refine xv_aload_n rfl rfl hY dX5_countPairs_27 rfl ?_
          refine xv_iload_n rfl rfl hY dX5_countPairs_28 rfl ?_
          refine xv_callVI (ci := 5) (y := yX5_isThere) (ws := wsX5_isThere) (rm := rm_X5_isThere) (mc := 0) (ms := 0) (n := 1) (av := [xi x4.2.1]) hY dX5_countPairs_29 rfl rfl rfl (by decide) (fun q hq => by rw [hfl]; exact S_X5_isThere Y.1.2.1 a0 x4.2.1 M6 q hq) (cwV 1 hY.2.2.2.2.1 gX5_countPairs_X5_isThere rfl rfl rfl (by decide +kernel) ⟨(by rw [hR]; exact Nat.le_of_ble_eq_true rfl), (by rw [hR]; exact Nat.le_of_ble_eq_true rfl)⟩) rfl (Nat.le_of_ble_eq_true rfl) ⟨(by rw [hR]; exact Nat.le_of_ble_eq_true rfl), (by rw [hR]; exact Nat.le_of_ble_eq_true rfl)⟩ (fun z11 M10 => ?_)
          refine xv_if_eq (t := 68) hY dX5_countPairs_32 (by decide) rfl ?_ ?_
          · exact xv_mk (L' := [some (xr a0), some (xi x4.1), some (xi x1.2.1), some (xi x4.2.1)]) [true, true, true, true] rfl (hj9 (x4.1, M10))
          · refine xv_aload_n rfl rfl hY dX5_countPairs_35 rfl ?_
            refine xv_getP (ci := 5) (j := 4) hY dX5_countPairs_36 rfl rfl rfl (by decide) hin5 (by decide) rfl (List.mem_of_getElem? (i := 2) rfl) (fun v12 => ?_)
            refine xv_iload_n rfl rfl hY dX5_countPairs_39 rfl ?_
            refine xv_iald hY dX5_countPairs_40 rfl (fun v13 => ?_)
            refine xv_aload_n rfl rfl hY dX5_countPairs_41 rfl ?_
            refine xv_getP (ci := 5) (j := 5) hY dX5_countPairs_42 rfl rfl rfl (by decide) hin5 (by decide) rfl (List.mem_of_getElem? (i := 3) rfl) (fun v14 => ?_)
            refine xv_iload_n rfl rfl hY dX5_countPairs_45 rfl ?_
            refine xv_iald hY dX5_countPairs_46 rfl (fun v15 => ?_)
            refine xv_icmp_gt (t := 68) hY dX5_countPairs_47 (by decide) rfl ?_ ?_
            · exact xv_mk (L' := [some (xr a0), some (xi x4.1), some (xi x1.2.1), some (xi x4.2.1)]) [true, true, true, true] rfl (hj9 (x4.1, M10))
            · refine xv_aload_n rfl rfl hY dX5_countPairs_50 rfl ?_
              refine xv_getP (ci := 5) (j := 4) hY dX5_countPairs_51 rfl rfl rfl (by decide) hin5 (by decide) rfl (List.mem_of_getElem? (i := 2) rfl) (fun v16 => ?_)
              refine xv_iload_n rfl rfl hY dX5_countPairs_54 rfl ?_
              refine xv_iald hY dX5_countPairs_55 rfl (fun v17 => ?_)
              refine xv_aload_n rfl rfl hY dX5_countPairs_56 rfl ?_
              refine xv_getP (ci := 5) (j := 5) hY dX5_countPairs_57 rfl rfl rfl (by decide) hin5 (by decide) rfl (List.mem_of_getElem? (i := 3) rfl) (fun v18 => ?_)
              refine xv_iload_n rfl rfl hY dX5_countPairs_60 rfl ?_
              refine xv_iald hY dX5_countPairs_61 rfl (fun v19 => ?_)
              refine xv_icmp_gt (t := 68) hY dX5_countPairs_62 (by decide) rfl ?_ ?_
              · exact xv_mk (L' := [some (xr a0), some (xi x4.1), some (xi x1.2.1), some (xi x4.2.1)]) [true, true, true, true] rfl (hj9 (x4.1, M10))
              · refine xv_iinc (L' := [some (xr a0), some (xi (x4.1 + 1)), some (xi x1.2.1), some (xi x4.2.1)]) hY dX5_countPairs_65 rfl (by rw [hnL]; decide) rfl rfl rfl ?_
                exact xv_mk (L' := [some (xr a0), some (xi (x4.1 + 1)), some (xi x1.2.1), some (xi x4.2.1)]) [true, true, true, true] rfl (hj9 ((x4.1 + 1), M10))
set_option maxHeartbeats 4000000 in
set_option maxRecDepth 100000 in
theorem S_X5_occursBefore (l : Launch) (a0 : Nat) (a1 : Nat) (a2 : Int) (M : xv_M) (q : Int × xv_M) (h : D_X5_occursBefore a0 a1 a2 M = some q) : xv_Met l yX5_occursBefore wsX5_occursBefore rm_X5_occursBefore 0 0 false [xr a0, xr a1, xi a2] M (xv_qI false q) := by
  refine xv_enter (cc := cX5_occursBefore) (nL := 4) (ret := (some .boolean)) rfl (by decide +kernel) (Nat.le_of_ble_eq_true rfl) h ?_
  intro Y hY0 hl hR hnL hfl hret hnm0
  have hY : xv_ok Y cX5_occursBefore wsX5_occursBefore RX5 := hY0
  unfold D_X5_occursBefore
  refine xv_mk (L' := [some (xr a0), some (xr a1), some (xi a2), none]) [true, true, true, true] rfl ?_
  refine xv_iconst hY dX5_occursBefore_0 rfl ?_
  refine xv_istore_n (L' := [some (xr a0), some (xr a1), some (xi a2), some (xi (0 : Int))]) hY dX5_occursBefore_1 rfl rfl (by rw [hnL]; decide) rfl rfl ?_
  refine xv_mk (L' := [some (xr a0), some (xr a1), some (xi a2), some (xi (0 : Int))]) [true, true, true, true] rfl ?_
  refine xv_loop (σ := Int × xv_M) (fun x1 => [some (xr a0), some (xr a1), some (xi a2), some (xi x1.1)]) (fun x1 => x1.2) (fun f2 hf2 x1 => ?_) xv_fuel ((0 : Int), M)
  refine xv_iload_n rfl rfl hY dX5_occursBefore_2 rfl ?_
  refine xv_iload_n rfl rfl hY dX5_occursBefore_3 rfl ?_
  refine xv_icmp_ge (t := 32) hY dX5_occursBefore_4 (by decide) rfl ?_ ?_
  · refine xv_iconst hY dX5_occursBefore_32 rfl ?_
    exact xv_iretz hY hfl dX5_occursBefore_33 hret (Nat.le_of_ble_eq_true rfl) (Nat.le_of_ble_eq_true rfl)
  · refine xv_aload_n rfl rfl hY dX5_occursBefore_7 rfl ?_
    refine xv_iload_n rfl rfl hY dX5_occursBefore_8 rfl ?_
    refine xv_callVI (ci := 5) (y := yX5_isThere) (ws := wsX5_isThere) (rm := rm_X5_isThere) (mc := 0) (ms := 0) (n := 1) (av := [xi x1.1]) hY dX5_occursBefore_9 rfl rfl rfl (by decide) (fun q hq => by rw [hfl]; exact S_X5_isThere Y.1.2.1 a0 x1.1 x1.2 q hq) (cwV 1 hY.2.2.2.2.1 gX5_occursBefore_X5_isThere rfl rfl rfl (by decide +kernel) ⟨(by rw [hR]; exact Nat.le_of_ble_eq_true rfl), (by rw [hR]; exact Nat.le_of_ble_eq_true rfl)⟩) rfl (Nat.le_of_ble_eq_true rfl) ⟨(by rw [hR]; exact Nat.le_of_ble_eq_true rfl), (by rw [hR]; exact Nat.le_of_ble_eq_true rfl)⟩ (fun z4 M3 => ?_)
    refine xv_join (α := Unit) 26 (fun x5 => [some (xr a0), some (xr a1), some (xi a2), some (xi x1.1)]) (fun x5 => []) (fun x5 => M3) (fun x5 => ?_) (fun j6 hj6 => ?_)
    · refine xv_iinc (L' := [some (xr a0), some (xr a1), some (xi a2), some (xi (x1.1 + 1))]) hY dX5_occursBefore_26 rfl (by rw [hnL]; decide) rfl rfl rfl ?_
      refine xv_goto (pc' := 2) hY dX5_occursBefore_29 (by decide) ?_
      exact xv_mk (L' := [some (xr a0), some (xr a1), some (xi a2), some (xi (x1.1 + 1))]) [true, true, true, true] rfl (hf2 ((x1.1 + 1), M3))
    · refine xv_if_eq (t := 26) hY dX5_occursBefore_12 (by decide) rfl ?_ ?_
      · exact xv_mk (L' := [some (xr a0), some (xr a1), some (xi a2), some (xi x1.1)]) [true, true, true, true] rfl (hj6 ())
      · refine xv_aload_n rfl rfl hY dX5_occursBefore_15 rfl ?_
        refine xv_iload_n rfl rfl hY dX5_occursBefore_16 rfl ?_
        refine xv_iald hY dX5_occursBefore_17 rfl (fun v7 => ?_)
        refine xv_aload_n rfl rfl hY dX5_occursBefore_18 rfl ?_
        refine xv_iload_n rfl rfl hY dX5_occursBefore_19 rfl ?_
        refine xv_iald hY dX5_occursBefore_20 rfl (fun v8 => ?_)
        refine xv_icmp_ne (t := 26) hY dX5_occursBefore_21 (by decide) rfl ?_ ?_
        · exact xv_mk (L' := [some (xr a0), some (xr a1), some (xi a2), some (xi x1.1)]) [true, true, true, true] rfl (hj6 ())
        · refine xv_iconst hY dX5_occursBefore_24 rfl ?_
          exact xv_iretz hY hfl dX5_occursBefore_25 hret (Nat.le_of_ble_eq_true rfl) (Nat.le_of_ble_eq_true rfl)
set_option maxHeartbeats 4000000 in
set_option maxRecDepth 100000 in
theorem S_X5_countDifferent (l : Launch) (a0 : Nat) (a1 : Nat) (M : xv_M) (q : Int × xv_M) (h : D_X5_countDifferent a0 a1 M = some q) : xv_Met l yX5_countDifferent wsX5_countDifferent rm_X5_countDifferent 0 0 false [xr a0, xr a1] M (xv_qI false q) := by
  refine xv_enter (cc := cX5_countDifferent) (nL := 4) (ret := (some .int)) rfl (by decide +kernel) (Nat.le_of_ble_eq_true rfl) h ?_
  intro Y hY0 hl hR hnL hfl hret hnm0
  have hY : xv_ok Y cX5_countDifferent wsX5_countDifferent RX5 := hY0
  have hin5 : ∀ w ∈ u_ws RX5 TX5 8, w ∈ wsX5_countDifferent := fun _ h => List.mem_cons_of_mem _ (List.mem_append_right _ h)
  unfold D_X5_countDifferent
  refine xv_mk (L' := [some (xr a0), some (xr a1), none, none]) [true, true, true, true] rfl ?_
  refine xv_iconst hY dX5_countDifferent_0 rfl ?_
  refine xv_istore_n (L' := [some (xr a0), some (xr a1), some (xi (0 : Int)), none]) hY dX5_countDifferent_1 rfl rfl (by rw [hnL]; decide) rfl rfl ?_
  refine xv_iconst hY dX5_countDifferent_2 rfl ?_
  refine xv_istore_n (L' := [some (xr a0), some (xr a1), some (xi (0 : Int)), some (xi (0 : Int))]) hY dX5_countDifferent_3 rfl rfl (by rw [hnL]; decide) rfl rfl ?_
  refine xv_mk (L' := [some (xr a0), some (xr a1), some (xi (0 : Int)), some (xi (0 : Int))]) [true, true, true, true] rfl ?_
  refine xv_loop (σ := Int × Int × xv_M) (fun x1 => [some (xr a0), some (xr a1), some (xi x1.1), some (xi x1.2.1)]) (fun x1 => x1.2.2) (fun f2 hf2 x1 => ?_) xv_fuel ((0 : Int), (0 : Int), M)
  refine xv_iload_n rfl rfl hY dX5_countDifferent_4 rfl ?_
  refine xv_aload_n rfl rfl hY dX5_countDifferent_5 rfl ?_
  refine xv_getI (ci := 5) (j := 0) hY dX5_countDifferent_6 rfl rfl rfl (by decide) hin5 (by decide) rfl (List.mem_of_getElem? (i := 1) rfl) (fun v3 => ?_)
  refine xv_icmp_ge (t := 44) hY dX5_countDifferent_9 (by decide) rfl ?_ ?_
  · refine xv_iload_n rfl rfl hY dX5_countDifferent_44 rfl ?_
    exact xv_ireti hY hfl dX5_countDifferent_45 hret (Nat.le_of_ble_eq_true rfl) (Nat.le_of_ble_eq_true rfl)
  · refine xv_iload_n rfl rfl hY dX5_countDifferent_12 rfl ?_
    refine xv_aload_n rfl rfl hY dX5_countDifferent_13 rfl ?_
    refine xv_alenI hY dX5_countDifferent_14 rfl (fun v4 => ?_)
    refine xv_icmp_ge (t := 44) hY dX5_countDifferent_15 (by decide) rfl ?_ ?_
    · refine xv_iload_n rfl rfl hY dX5_countDifferent_44 rfl ?_
      exact xv_ireti hY hfl dX5_countDifferent_45 hret (Nat.le_of_ble_eq_true rfl) (Nat.le_of_ble_eq_true rfl)
    · refine xv_aload_n rfl rfl hY dX5_countDifferent_18 rfl ?_
      refine xv_iload_n rfl rfl hY dX5_countDifferent_19 rfl ?_
      refine xv_callVI (ci := 5) (y := yX5_isThere) (ws := wsX5_isThere) (rm := rm_X5_isThere) (mc := 0) (ms := 0) (n := 1) (av := [xi x1.2.1]) hY dX5_countDifferent_20 rfl rfl rfl (by decide) (fun q hq => by rw [hfl]; exact S_X5_isThere Y.1.2.1 a0 x1.2.1 x1.2.2 q hq) (cwV 1 hY.2.2.2.2.1 gX5_countDifferent_X5_isThere rfl rfl rfl (by decide +kernel) ⟨(by rw [hR]; exact Nat.le_of_ble_eq_true rfl), (by rw [hR]; exact Nat.le_of_ble_eq_true rfl)⟩) rfl (Nat.le_of_ble_eq_true rfl) ⟨(by rw [hR]; exact Nat.le_of_ble_eq_true rfl), (by rw [hR]; exact Nat.le_of_ble_eq_true rfl)⟩ (fun z6 M5 => ?_)
      refine xv_join (α := Int × xv_M) 38 (fun x7 => [some (xr a0), some (xr a1), some (xi x7.1), some (xi x1.2.1)]) (fun x7 => []) (fun x7 => x7.2) (fun x7 => ?_) (fun j8 hj8 => ?_)
      · refine xv_iinc (L' := [some (xr a0), some (xr a1), some (xi x7.1), some (xi (x1.2.1 + 1))]) hY dX5_countDifferent_38 rfl (by rw [hnL]; decide) rfl rfl rfl ?_
        refine xv_goto (pc' := 4) hY dX5_countDifferent_41 (by decide) ?_
        exact xv_mk (L' := [some (xr a0), some (xr a1), some (xi x7.1), some (xi (x1.2.1 + 1))]) [true, true, true, true] rfl (hf2 (x7.1, (x1.2.1 + 1), x7.2))
      · refine xv_if_eq (t := 38) hY dX5_countDifferent_23 (by decide) rfl ?_ ?_
        · exact xv_mk (L' := [some (xr a0), some (xr a1), some (xi x1.1), some (xi x1.2.1)]) [true, true, true, true] rfl (hj8 (x1.1, M5))
        · refine xv_aload_n rfl rfl hY dX5_countDifferent_26 rfl ?_
          refine xv_aload_n rfl rfl hY dX5_countDifferent_27 rfl ?_
          refine xv_iload_n rfl rfl hY dX5_countDifferent_28 rfl ?_
          refine xv_callVI (ci := 5) (y := yX5_occursBefore) (ws := wsX5_occursBefore) (rm := rm_X5_occursBefore) (mc := 0) (ms := 0) (n := 2) (av := [xr a1, xi x1.2.1]) hY dX5_countDifferent_29 rfl rfl rfl (by decide) (fun q hq => by rw [hfl]; exact S_X5_occursBefore Y.1.2.1 a0 a1 x1.2.1 M5 q hq) (cwV 2 hY.2.2.2.2.1 gX5_countDifferent_X5_occursBefore rfl rfl rfl (by decide +kernel) ⟨(by rw [hR]; exact Nat.le_of_ble_eq_true rfl), (by rw [hR]; exact Nat.le_of_ble_eq_true rfl)⟩) rfl (Nat.le_of_ble_eq_true rfl) ⟨(by rw [hR]; exact Nat.le_of_ble_eq_true rfl), (by rw [hR]; exact Nat.le_of_ble_eq_true rfl)⟩ (fun z10 M9 => ?_)
          refine xv_if_ne (t := 38) hY dX5_countDifferent_32 (by decide) rfl ?_ ?_
          · exact xv_mk (L' := [some (xr a0), some (xr a1), some (xi x1.1), some (xi x1.2.1)]) [true, true, true, true] rfl (hj8 (x1.1, M9))
          · refine xv_iinc (L' := [some (xr a0), some (xr a1), some (xi (x1.1 + 1)), some (xi x1.2.1)]) hY dX5_countDifferent_35 rfl (by rw [hnL]; decide) rfl rfl rfl ?_
            exact xv_mk (L' := [some (xr a0), some (xr a1), some (xi (x1.1 + 1)), some (xi x1.2.1)]) [true, true, true, true] rfl (hj8 ((x1.1 + 1), M9))
set_option maxHeartbeats 4000000 in
set_option maxRecDepth 100000 in
theorem S_X7_init (l : Launch) (a0 : Nat) (M : xv_M) (q : Unit × xv_M) (h : D_X7_init a0 M = some q) : xv_Met l yX7_init wsX7_init rm_X7_init 1 60 true [xr a0] M (xv_qV true q) := by
  refine xv_enter (cc := cX7_init) (nL := 1) (ret := none) rfl (by decide +kernel) (Nat.le_of_ble_eq_true rfl) h ?_
  intro Y hY0 hl hR hnL hfl hret hnm0
  have hY : xv_ok Y cX7_init wsX7_init RX7 := hY0
  have hin7 : ∀ w ∈ u_ws RX7 TX7 2, w ∈ wsX7_init := fun _ h => List.mem_cons_of_mem _ (List.mem_append_right _ h)
  unfold D_X7_init
  refine xv_mk (L' := [some (xr a0)]) [true] rfl ?_
  refine xv_aload_n rfl rfl hY dX7_init_0 rfl ?_
  refine xv_objInit hY dX7_init_1 rfl (by decide +kernel) (by decide +kernel) (by decide +kernel) (by rw [hR]; exact Nat.le_of_ble_eq_true rfl) (by rw [hR]; exact Nat.le_of_ble_eq_true rfl) ?_
  refine xv_aload_n rfl rfl hY dX7_init_4 rfl ?_
  refine xv_bipush (by decide) hY dX7_init_5 rfl ?_
  refine xv_newaC (N := 60) hY hfl dX7_init_7 rfl rfl (by decide) (by decide +kernel) (by rw [hR]; exact Nat.le_of_ble_eq_true rfl) (by rw [hR]; exact Nat.le_of_ble_eq_true rfl) (fun r1 M2 => ?_)
  refine xv_putP (ci := 7) (j := 1) hY dX7_init_9 rfl rfl rfl (by decide) hin7 (by decide) rfl (List.mem_of_getElem? (i := 5) rfl) tyX7_ok nmX7 (Or.inr ⟨rfl, hnm0, rfl⟩) (Or.inr ⟨_, rfl⟩) (fun M3 => ?_)
  exact xv_vretu hY hfl dX7_init_12 hret (Nat.le_of_ble_eq_true rfl) (Nat.le_of_ble_eq_true rfl)
set_option maxHeartbeats 4000000 in
set_option maxRecDepth 100000 in
theorem S_X7_append (l : Launch) (a0 : Nat) (a1 : Int) (M : xv_M) (q : Int × xv_M) (h : D_X7_append a0 a1 M = some q) : xv_Met l yX7_append wsX7_append rm_X7_append 0 0 false [xr a0, xi a1] M (xv_qI false q) := by
  refine xv_enter (cc := cX7_append) (nL := 2) (ret := (some .boolean)) rfl (by decide +kernel) (Nat.le_of_ble_eq_true rfl) h ?_
  intro Y hY0 hl hR hnL hfl hret hnm0
  have hY : xv_ok Y cX7_append wsX7_append RX7 := hY0
  have hin7 : ∀ w ∈ u_ws RX7 TX7 2, w ∈ wsX7_append := fun _ h => List.mem_cons_of_mem _ (List.mem_append_right _ h)
  unfold D_X7_append
  refine xv_mk (L' := [some (xr a0), some (xi a1)]) [true, true] rfl ?_
  refine xv_aload_n rfl rfl hY dX7_append_0 rfl ?_
  refine xv_getI (ci := 7) (j := 0) hY dX7_append_1 rfl rfl rfl (by decide) hin7 (by decide) rfl (List.mem_of_getElem? (i := 1) rfl) (fun v1 => ?_)
  refine xv_bipush (by decide) hY dX7_append_4 rfl ?_
  refine xv_icmp_lt (t := 11) hY dX7_append_6 (by decide) rfl ?_ ?_
  · refine xv_aload_n rfl rfl hY dX7_append_11 rfl ?_
    refine xv_getP (ci := 7) (j := 1) hY dX7_append_12 rfl rfl rfl (by decide) hin7 (by decide) rfl (List.mem_of_getElem? (i := 2) rfl) (fun v2 => ?_)
    refine xv_aload_n rfl rfl hY dX7_append_15 rfl ?_
    refine xv_getI (ci := 7) (j := 0) hY dX7_append_16 rfl rfl rfl (by decide) hin7 (by decide) rfl (List.mem_of_getElem? (i := 1) rfl) (fun v3 => ?_)
    refine xv_iload_n rfl rfl hY dX7_append_19 rfl ?_
    refine xv_cast hY hfl dX7_append_20 rfl (fun M4 => ?_)
    refine xv_aload_n rfl rfl hY dX7_append_21 rfl ?_
    refine xv_dupr hY dX7_append_22 rfl ?_
    refine xv_getI (ci := 7) (j := 0) hY dX7_append_23 rfl rfl rfl (by decide) hin7 (by decide) rfl (List.mem_of_getElem? (i := 1) rfl) (fun v5 => ?_)
    refine xv_iconst hY dX7_append_26 rfl ?_
    refine xv_iadd hY dX7_append_27 rfl ?_
    refine xv_putI (ci := 7) (j := 0) hY dX7_append_28 rfl rfl rfl (by decide) hin7 (by decide) rfl (List.mem_of_getElem? (i := 1) rfl) tyX7_ok nmX7 (Or.inl rfl) rfl (fun M6 => ?_)
    refine xv_iconst hY dX7_append_31 rfl ?_
    exact xv_iretz hY hfl dX7_append_32 hret (Nat.le_of_ble_eq_true rfl) (Nat.le_of_ble_eq_true rfl)
  · refine xv_iconst hY dX7_append_9 rfl ?_
    exact xv_iretz hY hfl dX7_append_10 hret (Nat.le_of_ble_eq_true rfl) (Nat.le_of_ble_eq_true rfl)
set_option maxHeartbeats 4000000 in
set_option maxRecDepth 100000 in
theorem S_X8_isNode (l : Launch) (a0 : Nat) (M : xv_M) (q : Int × xv_M) (h : D_X8_isNode a0 M = some q) : xv_Met l yX8_isNode wsX8_isNode rm_X8_isNode 0 0 false [xr a0] M (xv_qI false q) := by
  refine xv_enter (cc := cX8_isNode) (nL := 1) (ret := (some .boolean)) rfl (by decide +kernel) (Nat.le_of_ble_eq_true rfl) h ?_
  intro Y hY0 hl hR hnL hfl hret hnm0
  have hY : xv_ok Y cX8_isNode wsX8_isNode RX8 := hY0
  have hin8 : ∀ w ∈ u_ws RX8 TX8 5, w ∈ wsX8_isNode := fun _ h => List.mem_cons_of_mem _ (List.mem_append_left _ (List.mem_append_right _ h))
  have hin10 : ∀ w ∈ u_ws RX10 TX10 4, w ∈ wsX8_isNode := fun _ h => List.mem_cons_of_mem _ (List.mem_append_right _ h)
  unfold D_X8_isNode
  refine xv_mk (L' := [some (xr a0)]) [true] rfl ?_
  refine xv_aload_n rfl rfl hY dX8_isNode_0 rfl ?_
  refine xv_getP (ci := 8) (j := 4) hY dX8_isNode_1 rfl rfl rfl (by decide) hin8 (by decide) rfl (List.mem_of_getElem? (i := 1) rfl) (fun v1 => ?_)
  refine xv_callVI (ci := 10) (y := yX10_hasPlaces) (ws := wsX10_hasPlaces) (rm := rm_X10_hasPlaces) (mc := 0) (ms := 0) (n := 0) (av := []) hY dX8_isNode_4 rfl rfl rfl (by decide) (fun q hq => by rw [hfl]; exact S_X10_hasPlaces Y.1.2.1 v1 M q hq) (cwV 0 hY.2.2.2.2.1 gX8_isNode_X10_hasPlaces rfl rfl rfl (by decide +kernel) ⟨(by rw [hR]; exact Nat.le_of_ble_eq_true rfl), (by rw [hR]; exact Nat.le_of_ble_eq_true rfl)⟩) rfl (Nat.le_of_ble_eq_true rfl) ⟨(by rw [hR]; exact Nat.le_of_ble_eq_true rfl), (by rw [hR]; exact Nat.le_of_ble_eq_true rfl)⟩ (fun z3 M2 => ?_)
  refine xv_if_eq (t := 29) hY dX8_isNode_7 (by decide) rfl ?_ ?_
  · refine xv_iconst hY dX8_isNode_29 rfl ?_
    exact xv_iretz hY hfl dX8_isNode_30 hret (Nat.le_of_ble_eq_true rfl) (Nat.le_of_ble_eq_true rfl)
  · refine xv_aload_n rfl rfl hY dX8_isNode_10 rfl ?_
    refine xv_getP (ci := 8) (j := 3) hY dX8_isNode_11 rfl rfl rfl (by decide) hin8 (by decide) rfl (List.mem_of_getElem? (i := 2) rfl) (fun v4 => ?_)
    refine xv_aload_n rfl rfl hY dX8_isNode_14 rfl ?_
    refine xv_getP (ci := 8) (j := 4) hY dX8_isNode_15 rfl rfl rfl (by decide) hin8 (by decide) rfl (List.mem_of_getElem? (i := 1) rfl) (fun v5 => ?_)
    refine xv_getI (ci := 10) (j := 2) hY dX8_isNode_18 rfl rfl rfl (by decide) hin10 (by decide) rfl (List.mem_of_getElem? (i := 3) rfl) (fun v6 => ?_)
    refine xv_iald hY dX8_isNode_21 rfl (fun v7 => ?_)
    refine xv_if_le (t := 29) hY dX8_isNode_22 (by decide) rfl ?_ ?_
    · refine xv_iconst hY dX8_isNode_29 rfl ?_
      exact xv_iretz hY hfl dX8_isNode_30 hret (Nat.le_of_ble_eq_true rfl) (Nat.le_of_ble_eq_true rfl)
    · refine xv_iconst hY dX8_isNode_25 rfl ?_
      refine xv_goto (pc' := 30) hY dX8_isNode_26 (by decide) ?_
      exact xv_iretz hY hfl dX8_isNode_30 hret (Nat.le_of_ble_eq_true rfl) (Nat.le_of_ble_eq_true rfl)
set_option maxHeartbeats 4000000 in
set_option maxRecDepth 100000 in
theorem S_X8_goTowards (l : Launch) (a0 : Nat) (a1 : Int) (M : xv_M) (q : Int × xv_M) (h : D_X8_goTowards a0 a1 M = some q) : xv_Met l yX8_goTowards wsX8_goTowards rm_X8_goTowards 0 0 false [xr a0, xi a1] M (xv_qI false q) := by
  refine xv_enter (cc := cX8_goTowards) (nL := 2) (ret := (some .boolean)) rfl (by decide +kernel) (Nat.le_of_ble_eq_true rfl) h ?_
  intro Y hY0 hl hR hnL hfl hret hnm0
  have hY : xv_ok Y cX8_goTowards wsX8_goTowards RX8 := hY0
  have hin8 : ∀ w ∈ u_ws RX8 TX8 5, w ∈ wsX8_goTowards := fun _ h => List.mem_cons_of_mem _ (List.mem_append_left _ (List.mem_append_right _ h))
  have hin10 : ∀ w ∈ u_ws RX10 TX10 4, w ∈ wsX8_goTowards := fun _ h => List.mem_cons_of_mem _ (List.mem_append_right _ h)
  unfold D_X8_goTowards
  refine xv_mk (L' := [some (xr a0), some (xi a1)]) [true, true] rfl ?_
  refine xv_iload_n rfl rfl hY dX8_goTowards_0 rfl ?_
  refine xv_aload_n rfl rfl hY dX8_goTowards_1 rfl ?_
  refine xv_getP (ci := 8) (j := 4) hY dX8_goTowards_2 rfl rfl rfl (by decide) hin8 (by decide) rfl (List.mem_of_getElem? (i := 1) rfl) (fun v1 => ?_)
  refine xv_getI (ci := 10) (j := 2) hY dX8_goTowards_5 rfl rfl rfl (by decide) hin10 (by decide) rfl (List.mem_of_getElem? (i := 2) rfl) (fun v2 => ?_)
  refine xv_icmp_ne (t := 13) hY dX8_goTowards_8 (by decide) rfl ?_ ?_
  · refine xv_iload_n rfl rfl hY dX8_goTowards_13 rfl ?_
    refine xv_aload_n rfl rfl hY dX8_goTowards_14 rfl ?_
    refine xv_getP (ci := 8) (j := 4) hY dX8_goTowards_15 rfl rfl rfl (by decide) hin8 (by decide) rfl (List.mem_of_getElem? (i := 1) rfl) (fun v3 => ?_)
    refine xv_getI (ci := 10) (j := 2) hY dX8_goTowards_18 rfl rfl rfl (by decide) hin10 (by decide) rfl (List.mem_of_getElem? (i := 2) rfl) (fun v4 => ?_)
    refine xv_icmp_ge (t := 34) hY dX8_goTowards_21 (by decide) rfl ?_ ?_
    · refine xv_aload_n rfl rfl hY dX8_goTowards_34 rfl ?_
      refine xv_getP (ci := 8) (j := 4) hY dX8_goTowards_35 rfl rfl rfl (by decide) hin8 (by decide) rfl (List.mem_of_getElem? (i := 1) rfl) (fun v5 => ?_)
      refine xv_callVV (ci := 10) (y := yX10_goRight) (ws := wsX10_goRight) (rm := rm_X10_goRight) (mc := 0) (ms := 0) (n := 0) (av := []) hY dX8_goTowards_38 rfl rfl rfl (by decide) (fun q hq => by rw [hfl]; exact S_X10_goRight Y.1.2.1 v5 M q hq) (cwV 0 hY.2.2.2.2.1 gX8_goTowards_X10_goRight rfl rfl rfl (by decide +kernel) ⟨(by rw [hR]; exact Nat.le_of_ble_eq_true rfl), (by rw [hR]; exact Nat.le_of_ble_eq_true rfl)⟩) rfl (Nat.le_of_ble_eq_true rfl) ⟨(by rw [hR]; exact Nat.le_of_ble_eq_true rfl), (by rw [hR]; exact Nat.le_of_ble_eq_true rfl)⟩ (fun _ M6 => ?_)
      refine xv_iconst hY dX8_goTowards_41 rfl ?_
      exact xv_iretz hY hfl dX8_goTowards_42 hret (Nat.le_of_ble_eq_true rfl) (Nat.le_of_ble_eq_true rfl)
    · refine xv_aload_n rfl rfl hY dX8_goTowards_24 rfl ?_
      refine xv_getP (ci := 8) (j := 4) hY dX8_goTowards_25 rfl rfl rfl (by decide) hin8 (by decide) rfl (List.mem_of_getElem? (i := 1) rfl) (fun v7 => ?_)
      refine xv_callVV (ci := 10) (y := yX10_goLeft) (ws := wsX10_goLeft) (rm := rm_X10_goLeft) (mc := 0) (ms := 0) (n := 0) (av := []) hY dX8_goTowards_28 rfl rfl rfl (by decide) (fun q hq => by rw [hfl]; exact S_X10_goLeft Y.1.2.1 v7 M q hq) (cwV 0 hY.2.2.2.2.1 gX8_goTowards_X10_goLeft rfl rfl rfl (by decide +kernel) ⟨(by rw [hR]; exact Nat.le_of_ble_eq_true rfl), (by rw [hR]; exact Nat.le_of_ble_eq_true rfl)⟩) rfl (Nat.le_of_ble_eq_true rfl) ⟨(by rw [hR]; exact Nat.le_of_ble_eq_true rfl), (by rw [hR]; exact Nat.le_of_ble_eq_true rfl)⟩ (fun _ M8 => ?_)
      refine xv_goto (pc' := 41) hY dX8_goTowards_31 (by decide) ?_
      refine xv_iconst hY dX8_goTowards_41 rfl ?_
      exact xv_iretz hY hfl dX8_goTowards_42 hret (Nat.le_of_ble_eq_true rfl) (Nat.le_of_ble_eq_true rfl)
  · refine xv_iconst hY dX8_goTowards_11 rfl ?_
    exact xv_iretz hY hfl dX8_goTowards_12 hret (Nat.le_of_ble_eq_true rfl) (Nat.le_of_ble_eq_true rfl)
set_option maxHeartbeats 4000000 in
set_option maxRecDepth 100000 in
theorem S_X8_nodesOnWay (l : Launch) (a0 : Nat) (a1 : Int) (M : xv_M) (q : Int × xv_M) (h : D_X8_nodesOnWay a0 a1 M = some q) : xv_Met l yX8_nodesOnWay wsX8_nodesOnWay rm_X8_nodesOnWay 0 0 false [xr a0, xi a1] M (xv_qI false q) := by
  refine xv_enter (cc := cX8_nodesOnWay) (nL := 4) (ret := (some .int)) rfl (by decide +kernel) (Nat.le_of_ble_eq_true rfl) h ?_
  intro Y hY0 hl hR hnL hfl hret hnm0
  have hY : xv_ok Y cX8_nodesOnWay wsX8_nodesOnWay RX8 := hY0
  have hin8 : ∀ w ∈ u_ws RX8 TX8 5, w ∈ wsX8_nodesOnWay := fun _ h => List.mem_cons_of_mem _ (List.mem_append_left _ (List.mem_append_right _ h))
  unfold D_X8_nodesOnWay
  refine xv_mk (L' := [some (xr a0), some (xi a1), none, none]) [true, true, true, true] rfl ?_
  refine xv_aload_n rfl rfl hY dX8_nodesOnWay_0 rfl ?_
  refine xv_getP (ci := 8) (j := 4) hY dX8_nodesOnWay_1 rfl rfl rfl (by decide) hin8 (by decide) rfl (List.mem_of_getElem? (i := 1) rfl) (fun v1 => ?_)
  refine xv_callVV (ci := 10) (y := yX10_start) (ws := wsX10_start) (rm := rm_X10_start) (mc := 0) (ms := 0) (n := 0) (av := []) hY dX8_nodesOnWay_4 rfl rfl rfl (by decide) (fun q hq => by rw [hfl]; exact S_X10_start Y.1.2.1 v1 M q hq) (cwV 0 hY.2.2.2.2.1 gX8_nodesOnWay_X10_start rfl rfl rfl (by decide +kernel) ⟨(by rw [hR]; exact Nat.le_of_ble_eq_true rfl), (by rw [hR]; exact Nat.le_of_ble_eq_true rfl)⟩) rfl (Nat.le_of_ble_eq_true rfl) ⟨(by rw [hR]; exact Nat.le_of_ble_eq_true rfl), (by rw [hR]; exact Nat.le_of_ble_eq_true rfl)⟩ (fun _ M2 => ?_)
  refine xv_iconst hY dX8_nodesOnWay_7 rfl ?_
  refine xv_istore_n (L' := [some (xr a0), some (xi a1), some (xi (0 : Int)), none]) hY dX8_nodesOnWay_8 rfl rfl (by rw [hnL]; decide) rfl rfl ?_
  refine xv_iconst hY dX8_nodesOnWay_9 rfl ?_
  refine xv_istore_n (L' := [some (xr a0), some (xi a1), some (xi (0 : Int)), some (xi (0 : Int))]) hY dX8_nodesOnWay_10 rfl rfl (by rw [hnL]; decide) rfl rfl ?_
  refine xv_mk (L' := [some (xr a0), some (xi a1), some (xi (0 : Int)), some (xi (0 : Int))]) [true, true, true, true] rfl ?_
  refine xv_loop (σ := Int × Int × xv_M) (fun x3 => [some (xr a0), some (xi a1), some (xi x3.1), some (xi x3.2.1)]) (fun x3 => x3.2.2) (fun f4 hf4 x3 => ?_) xv_fuel ((0 : Int), (0 : Int), M2)
  refine xv_iload_n rfl rfl hY dX8_nodesOnWay_11 rfl ?_
  refine xv_bipush (by decide) hY dX8_nodesOnWay_12 rfl ?_
  refine xv_icmp_ge (t := 44) hY dX8_nodesOnWay_14 (by decide) rfl ?_ ?_
  · refine xv_iload_n rfl rfl hY dX8_nodesOnWay_44 rfl ?_
    exact xv_ireti hY hfl dX8_nodesOnWay_45 hret (Nat.le_of_ble_eq_true rfl) (Nat.le_of_ble_eq_true rfl)
  · refine xv_aload_n rfl rfl hY dX8_nodesOnWay_17 rfl ?_
    refine xv_callVI (ci := 8) (y := yX8_isNode) (ws := wsX8_isNode) (rm := rm_X8_isNode) (mc := 0) (ms := 0) (n := 0) (av := []) hY dX8_nodesOnWay_18 rfl rfl rfl (by decide) (fun q hq => by rw [hfl]; exact S_X8_isNode Y.1.2.1 a0 x3.2.2 q hq) (cwV 0 hY.2.2.2.2.1 gX8_nodesOnWay_X8_isNode rfl rfl rfl (by decide +kernel) ⟨(by rw [hR]; exact Nat.le_of_ble_eq_true rfl), (by rw [hR]; exact Nat.le_of_ble_eq_true rfl)⟩) rfl (Nat.le_of_ble_eq_true rfl) ⟨(by rw [hR]; exact Nat.le_of_ble_eq_true rfl), (by rw [hR]; exact Nat.le_of_ble_eq_true rfl)⟩ (fun z6 M5 => ?_)
    refine xv_if_eq (t := 44) hY dX8_nodesOnWay_21 (by decide) rfl ?_ ?_
    · refine xv_iload_n rfl rfl hY dX8_nodesOnWay_44 rfl ?_
      exact xv_ireti hY hfl dX8_nodesOnWay_45 hret (Nat.le_of_ble_eq_true rfl) (Nat.le_of_ble_eq_true rfl)
    · refine xv_iinc (L' := [some (xr a0), some (xi a1), some (xi (x3.1 + 1)), some (xi x3.2.1)]) hY dX8_nodesOnWay_24 rfl (by rw [hnL]; decide) rfl rfl rfl ?_
      refine xv_aload_n rfl rfl hY dX8_nodesOnWay_27 rfl ?_
      refine xv_iload_n rfl rfl hY dX8_nodesOnWay_28 rfl ?_
      refine xv_callVI (ci := 8) (y := yX8_goTowards) (ws := wsX8_goTowards) (rm := rm_X8_goTowards) (mc := 0) (ms := 0) (n := 1) (av := [xi a1]) hY dX8_nodesOnWay_29 rfl rfl rfl (by decide) (fun q hq => by rw [hfl]; exact S_X8_goTowards Y.1.2.1 a0 a1 M5 q hq) (cwV 1 hY.2.2.2.2.1 gX8_nodesOnWay_X8_goTowards rfl rfl rfl (by decide +kernel) ⟨(by rw [hR]; exact Nat.le_of_ble_eq_true rfl), (by rw [hR]; exact Nat.le_of_ble_eq_true rfl)⟩) rfl (Nat.le_of_ble_eq_true rfl) ⟨(by rw [hR]; exact Nat.le_of_ble_eq_true rfl), (by rw [hR]; exact Nat.le_of_ble_eq_true rfl)⟩ (fun z8 M7 => ?_)
      refine xv_if_ne (t := 38) hY dX8_nodesOnWay_32 (by decide) rfl ?_ ?_
      · refine xv_iinc (L' := [some (xr a0), some (xi a1), some (xi (x3.1 + 1)), some (xi (x3.2.1 + 1))]) hY dX8_nodesOnWay_38 rfl (by rw [hnL]; decide) rfl rfl rfl ?_
        refine xv_goto (pc' := 11) hY dX8_nodesOnWay_41 (by decide) ?_
        exact xv_mk (L' := [some (xr a0), some (xi a1), some (xi (x3.1 + 1)), some (xi (x3.2.1 + 1))]) [true, true, true, true] rfl (hf4 ((x3.1 + 1), (x3.2.1 + 1), M7))
      · refine xv_goto (pc' := 44) hY dX8_nodesOnWay_35 (by decide) ?_
        refine xv_iload_n rfl rfl hY dX8_nodesOnWay_44 rfl ?_
        exact xv_ireti hY hfl dX8_nodesOnWay_45 hret (Nat.le_of_ble_eq_true rfl) (Nat.le_of_ble_eq_true rfl)
set_option maxHeartbeats 4000000 in
set_option maxRecDepth 100000 in
theorem S_X8_reaches (l : Launch) (a0 : Nat) (a1 : Int) (a2 : Int) (a3 : Int) (M : xv_M) (q : Int × xv_M) (h : D_X8_reaches a0 a1 a2 a3 M = some q) : xv_Met l yX8_reaches wsX8_reaches rm_X8_reaches 0 0 false [xr a0, xi a1, xi a2, xi a3] M (xv_qI false q) := by
  refine xv_enter (cc := cX8_reaches) (nL := 4) (ret := (some .boolean)) rfl (by decide +kernel) (Nat.le_of_ble_eq_true rfl) h ?_
  intro Y hY0 hl hR hnL hfl hret hnm0
  have hY : xv_ok Y cX8_reaches wsX8_reaches RX8 := hY0
  have hin5 : ∀ w ∈ u_ws RX5 TX5 8, w ∈ wsX8_reaches := fun _ h => List.mem_cons_of_mem _ (List.mem_append_right _ h)
  unfold D_X8_reaches
  refine xv_mk (L' := [some (xr a0), some (xi a1), some (xi a2), some (xi a3)]) [true, true, true, true] rfl ?_
  refine xv_iload_n rfl rfl hY dX8_reaches_0 rfl ?_
  refine xv_iload_n rfl rfl hY dX8_reaches_1 rfl ?_
  refine xv_icmp_ge (t := 21) hY dX8_reaches_2 (by decide) rfl ?_ ?_
  · refine xv_iload_n rfl rfl hY dX8_reaches_21 rfl ?_
    refine xv_iload_n rfl rfl hY dX8_reaches_22 rfl ?_
    refine xv_icmp_eq (t := 36) hY dX8_reaches_23 (by decide) rfl ?_ ?_
    · refine xv_iconst hY dX8_reaches_36 rfl ?_
      refine xv_goto (pc' := 41) hY dX8_reaches_37 (by decide) ?_
      exact xv_iretz hY hfl dX8_reaches_41 hret (Nat.le_of_ble_eq_true rfl) (Nat.le_of_ble_eq_true rfl)
    · refine xv_aload_n rfl rfl hY dX8_reaches_26 rfl ?_
      refine xv_getP (ci := 5) (j := 5) hY dX8_reaches_27 rfl rfl rfl (by decide) hin5 (by decide) rfl (List.mem_of_getElem? (i := 2) rfl) (fun v1 => ?_)
      refine xv_iload_n rfl rfl hY dX8_reaches_30 rfl ?_
      refine xv_iald hY dX8_reaches_31 rfl (fun v2 => ?_)
      refine xv_iload_n rfl rfl hY dX8_reaches_32 rfl ?_
      refine xv_icmp_lt (t := 40) hY dX8_reaches_33 (by decide) rfl ?_ ?_
      · refine xv_iconst hY dX8_reaches_40 rfl ?_
        exact xv_iretz hY hfl dX8_reaches_41 hret (Nat.le_of_ble_eq_true rfl) (Nat.le_of_ble_eq_true rfl)
      · refine xv_iconst hY dX8_reaches_36 rfl ?_
        refine xv_goto (pc' := 41) hY dX8_reaches_37 (by decide) ?_
        exact xv_iretz hY hfl dX8_reaches_41 hret (Nat.le_of_ble_eq_true rfl) (Nat.le_of_ble_eq_true rfl)
  · refine xv_aload_n rfl rfl hY dX8_reaches_5 rfl ?_
    refine xv_getP (ci := 5) (j := 4) hY dX8_reaches_6 rfl rfl rfl (by decide) hin5 (by decide) rfl (List.mem_of_getElem? (i := 1) rfl) (fun v3 => ?_)
    refine xv_iload_n rfl rfl hY dX8_reaches_9 rfl ?_
    refine xv_iald hY dX8_reaches_10 rfl (fun v4 => ?_)
    refine xv_iload_n rfl rfl hY dX8_reaches_11 rfl ?_
    refine xv_icmp_gt (t := 19) hY dX8_reaches_12 (by decide) rfl ?_ ?_
    · refine xv_iconst hY dX8_reaches_19 rfl ?_
      exact xv_iretz hY hfl dX8_reaches_20 hret (Nat.le_of_ble_eq_true rfl) (Nat.le_of_ble_eq_true rfl)
    · refine xv_iconst hY dX8_reaches_15 rfl ?_
      refine xv_goto (pc' := 20) hY dX8_reaches_16 (by decide) ?_
      exact xv_iretz hY hfl dX8_reaches_20 hret (Nat.le_of_ble_eq_true rfl) (Nat.le_of_ble_eq_true rfl)
set_option maxHeartbeats 4000000 in
set_option maxRecDepth 100000 in
theorem S_X8_lookedAtIn (l : Launch) (a0 : Nat) (a1 : Int) (a2 : Int) (a3 : Nat) (M : xv_M) (q : Int × xv_M) (h : D_X8_lookedAtIn a0 a1 a2 a3 M = some q) : xv_Met l yX8_lookedAtIn wsX8_lookedAtIn rm_X8_lookedAtIn 0 0 false [xr a0, xi a1, xi a2, xr a3] M (xv_qI false q) := by
  refine xv_enter (cc := cX8_lookedAtIn) (nL := 6) (ret := (some .int)) rfl (by decide +kernel) (Nat.le_of_ble_eq_true rfl) h ?_
  intro Y hY0 hl hR hnL hfl hret hnm0
  have hY : xv_ok Y cX8_lookedAtIn wsX8_lookedAtIn RX8 := hY0
  have hin5 : ∀ w ∈ u_ws RX5 TX5 8, w ∈ wsX8_lookedAtIn := fun _ h => List.mem_cons_of_mem _ (List.mem_append_left _ (List.mem_append_right _ h))
  have hin8 : ∀ w ∈ u_ws RX8 TX8 5, w ∈ wsX8_lookedAtIn := fun _ h => List.mem_cons_of_mem _ (List.mem_append_right _ h)
  unfold D_X8_lookedAtIn
  refine xv_mk (L' := [some (xr a0), some (xi a1), some (xi a2), some (xr a3), none, none]) [true, true, true, true, true, true] rfl ?_
  refine xv_iconst hY dX8_lookedAtIn_0 rfl ?_
  refine xv_istore (L' := [some (xr a0), some (xi a1), some (xi a2), some (xr a3), some (xi (0 : Int)), none]) hY dX8_lookedAtIn_1 rfl (by rw [hnL]; decide) rfl rfl ?_
  refine xv_iconst hY dX8_lookedAtIn_3 rfl ?_
  refine xv_istore (L' := [some (xr a0), some (xi a1), some (xi a2), some (xr a3), some (xi (0 : Int)), some (xi (0 : Int))]) hY dX8_lookedAtIn_4 rfl (by rw [hnL]; decide) rfl rfl ?_
  refine xv_mk (L' := [some (xr a0), some (xi a1), some (xi a2), some (xr a3), some (xi (0 : Int)), some (xi (0 : Int))]) [true, true, true, true, true, true] rfl ?_
  refine xv_loop (σ := Int × Int × xv_M) (fun x1 => [some (xr a0), some (xi a1), some (xi a2), some (xr a3), some (xi x1.1), some (xi x1.2.1)]) (fun x1 => x1.2.2) (fun f2 hf2 x1 => ?_) xv_fuel ((0 : Int), (0 : Int), M)
  refine xv_iload rfl hY dX8_lookedAtIn_6 rfl ?_
  refine xv_aload_n rfl rfl hY dX8_lookedAtIn_8 rfl ?_
  refine xv_getI (ci := 5) (j := 0) hY dX8_lookedAtIn_9 rfl rfl rfl (by decide) hin5 (by decide) rfl (List.mem_of_getElem? (i := 1) rfl) (fun v3 => ?_)
  refine xv_icmp_ge (t := 55) hY dX8_lookedAtIn_12 (by decide) rfl ?_ ?_
  · refine xv_iload rfl hY dX8_lookedAtIn_55 rfl ?_
    refine xv_iconst hY dX8_lookedAtIn_57 rfl ?_
    refine xv_iadd hY dX8_lookedAtIn_58 rfl ?_
    refine xv_aload_n rfl rfl hY dX8_lookedAtIn_59 rfl ?_
    refine xv_getP (ci := 8) (j := 2) hY dX8_lookedAtIn_60 rfl rfl rfl (by decide) hin8 (by decide) rfl (List.mem_of_getElem? (i := 3) rfl) (fun v4 => ?_)
    refine xv_iload_n rfl rfl hY dX8_lookedAtIn_63 rfl ?_
    refine xv_iald hY dX8_lookedAtIn_64 rfl (fun v5 => ?_)
    refine xv_mmin hY dX8_lookedAtIn_65 rfl (by decide +kernel) (by decide +kernel) (by decide +kernel) (by decide +kernel) (by rw [hR]; exact Nat.le_of_ble_eq_true rfl) (by rw [hR]; exact Nat.le_of_ble_eq_true rfl) (by rw [hR]; exact Nat.le_of_ble_eq_true rfl) (by rw [hR]; exact Nat.le_of_ble_eq_true rfl) (fun v6 => ?_)
    exact xv_ireti hY hfl dX8_lookedAtIn_68 hret (Nat.le_of_ble_eq_true rfl) (Nat.le_of_ble_eq_true rfl)
  · refine xv_aload_n rfl rfl hY dX8_lookedAtIn_15 rfl ?_
    refine xv_iload rfl hY dX8_lookedAtIn_16 rfl ?_
    refine xv_callVI (ci := 5) (y := yX5_isThere) (ws := wsX5_isThere) (rm := rm_X5_isThere) (mc := 0) (ms := 0) (n := 1) (av := [xi x1.2.1]) hY dX8_lookedAtIn_18 rfl rfl rfl (by decide) (fun q hq => by rw [hfl]; exact S_X5_isThere Y.1.2.1 a3 x1.2.1 x1.2.2 q hq) (cwV 1 hY.2.2.2.2.1 gX8_lookedAtIn_X5_isThere rfl rfl rfl (by decide +kernel) ⟨(by rw [hR]; exact Nat.le_of_ble_eq_true rfl), (by rw [hR]; exact Nat.le_of_ble_eq_true rfl)⟩) rfl (Nat.le_of_ble_eq_true rfl) ⟨(by rw [hR]; exact Nat.le_of_ble_eq_true rfl), (by rw [hR]; exact Nat.le_of_ble_eq_true rfl)⟩ (fun z8 M7 => ?_)
    refine xv_join (α := Int × xv_M) 49 (fun x9 => [some (xr a0), some (xi a1), some (xi a2), some (xr a3), some (xi x9.1), some (xi x1.2.1)]) (fun x9 => []) (fun x9 => x9.2) (fun x9 => ?_) (fun j10 hj10 => ?_)
    · refine xv_iinc (L' := [some (xr a0), some (xi a1), some (xi a2), some (xr a3), some (xi x9.1), some (xi (x1.2.1 + 1))]) hY dX8_lookedAtIn_49 rfl (by rw [hnL]; decide) rfl rfl rfl ?_
      refine xv_goto (pc' := 6) hY dX8_lookedAtIn_52 (by decide) ?_
      exact xv_mk (L' := [some (xr a0), some (xi a1), some (xi a2), some (xr a3), some (xi x9.1), some (xi (x1.2.1 + 1))]) [true, true, true, true, true, true] rfl (hf2 (x9.1, (x1.2.1 + 1), x9.2))
    · refine xv_if_eq (t := 49) hY dX8_lookedAtIn_21 (by decide) rfl ?_ ?_
      · exact xv_mk (L' := [some (xr a0), some (xi a1), some (xi a2), some (xr a3), some (xi x1.1), some (xi x1.2.1)]) [true, true, true, true, true, true] rfl (hj10 (x1.1, M7))
      · refine xv_aload_n rfl rfl hY dX8_lookedAtIn_24 rfl ?_
        refine xv_getP (ci := 8) (j := 0) hY dX8_lookedAtIn_25 rfl rfl rfl (by decide) hin8 (by decide) rfl (List.mem_of_getElem? (i := 2) rfl) (fun v11 => ?_)
        refine xv_iload rfl hY dX8_lookedAtIn_28 rfl ?_
        refine xv_iald hY dX8_lookedAtIn_30 rfl (fun v12 => ?_)
        refine xv_iload_n rfl rfl hY dX8_lookedAtIn_31 rfl ?_
        refine xv_icmp_ne (t := 49) hY dX8_lookedAtIn_32 (by decide) rfl ?_ ?_
        · exact xv_mk (L' := [some (xr a0), some (xi a1), some (xi a2), some (xr a3), some (xi x1.1), some (xi x1.2.1)]) [true, true, true, true, true, true] rfl (hj10 (x1.1, M7))
        · refine xv_aload_n rfl rfl hY dX8_lookedAtIn_35 rfl ?_
          refine xv_iload rfl hY dX8_lookedAtIn_36 rfl ?_
          refine xv_iload_n rfl rfl hY dX8_lookedAtIn_38 rfl ?_
          refine xv_iload_n rfl rfl hY dX8_lookedAtIn_39 rfl ?_
          refine xv_callSI (y := yX8_reaches) (ws := wsX8_reaches) (rm := rm_X8_reaches) (mc := 0) (ms := 0) (n := 4) (av := [xr a3, xi x1.2.1, xi a2, xi a1]) hY dX8_lookedAtIn_40 rfl rfl (fun q hq => by rw [hfl]; exact S_X8_reaches Y.1.2.1 a3 x1.2.1 a2 a1 M7 q hq) (va_cwS 4 hY.2.2.2.2.1 gX8_lookedAtIn_X8_reaches rfl rfl rfl (by decide +kernel) ⟨(by rw [hR]; exact Nat.le_of_ble_eq_true rfl), (by rw [hR]; exact Nat.le_of_ble_eq_true rfl)⟩) rfl (Nat.le_of_ble_eq_true rfl) ⟨(by rw [hR]; exact Nat.le_of_ble_eq_true rfl), (by rw [hR]; exact Nat.le_of_ble_eq_true rfl)⟩ (fun z14 M13 => ?_)
          refine xv_if_eq (t := 49) hY dX8_lookedAtIn_43 (by decide) rfl ?_ ?_
          · exact xv_mk (L' := [some (xr a0), some (xi a1), some (xi a2), some (xr a3), some (xi x1.1), some (xi x1.2.1)]) [true, true, true, true, true, true] rfl (hj10 (x1.1, M13))
          · refine xv_iinc (L' := [some (xr a0), some (xi a1), some (xi a2), some (xr a3), some (xi (x1.1 + 1)), some (xi x1.2.1)]) hY dX8_lookedAtIn_46 rfl (by rw [hnL]; decide) rfl rfl rfl ?_
            exact xv_mk (L' := [some (xr a0), some (xi a1), some (xi a2), some (xr a3), some (xi (x1.1 + 1)), some (xi x1.2.1)]) [true, true, true, true, true, true] rfl (hj10 ((x1.1 + 1), M13))
set_option maxHeartbeats 4000000 in
set_option maxRecDepth 100000 in
theorem S_X8_spansLookedAt (l : Launch) (a0 : Nat) (a1 : Int) (a2 : Nat) (M : xv_M) (q : Int × xv_M) (h : D_X8_spansLookedAt a0 a1 a2 M = some q) : xv_Met l yX8_spansLookedAt wsX8_spansLookedAt rm_X8_spansLookedAt 0 0 false [xr a0, xi a1, xr a2] M (xv_qI false q) := by
  refine xv_enter (cc := cX8_spansLookedAt) (nL := 5) (ret := (some .int)) rfl (by decide +kernel) (Nat.le_of_ble_eq_true rfl) h ?_
  intro Y hY0 hl hR hnL hfl hret hnm0
  have hY : xv_ok Y cX8_spansLookedAt wsX8_spansLookedAt RX8 := hY0
  have hin8 : ∀ w ∈ u_ws RX8 TX8 5, w ∈ wsX8_spansLookedAt := fun _ h => List.mem_cons_of_mem _ (List.mem_append_left _ (List.mem_append_left _ (List.mem_append_right _ h)))
  have hin10 : ∀ w ∈ u_ws RX10 TX10 4, w ∈ wsX8_spansLookedAt := fun _ h => List.mem_cons_of_mem _ (List.mem_append_left _ (List.mem_append_right _ h))
  unfold D_X8_spansLookedAt
  refine xv_mk (L' := [some (xr a0), some (xi a1), some (xr a2), none, none]) [true, true, true, true, true] rfl ?_
  refine xv_aload_n rfl rfl hY dX8_spansLookedAt_0 rfl ?_
  refine xv_getP (ci := 8) (j := 4) hY dX8_spansLookedAt_1 rfl rfl rfl (by decide) hin8 (by decide) rfl (List.mem_of_getElem? (i := 1) rfl) (fun v1 => ?_)
  refine xv_callVV (ci := 10) (y := yX10_start) (ws := wsX10_start) (rm := rm_X10_start) (mc := 0) (ms := 0) (n := 0) (av := []) hY dX8_spansLookedAt_4 rfl rfl rfl (by decide) (fun q hq => by rw [hfl]; exact S_X10_start Y.1.2.1 v1 M q hq) (cwV 0 hY.2.2.2.2.1 gX8_spansLookedAt_X10_start rfl rfl rfl (by decide +kernel) ⟨(by rw [hR]; exact Nat.le_of_ble_eq_true rfl), (by rw [hR]; exact Nat.le_of_ble_eq_true rfl)⟩) rfl (Nat.le_of_ble_eq_true rfl) ⟨(by rw [hR]; exact Nat.le_of_ble_eq_true rfl), (by rw [hR]; exact Nat.le_of_ble_eq_true rfl)⟩ (fun _ M2 => ?_)
  refine xv_iconst hY dX8_spansLookedAt_7 rfl ?_
  refine xv_istore_n (L' := [some (xr a0), some (xi a1), some (xr a2), some (xi (0 : Int)), none]) hY dX8_spansLookedAt_8 rfl rfl (by rw [hnL]; decide) rfl rfl ?_
  refine xv_iconst hY dX8_spansLookedAt_9 rfl ?_
  refine xv_istore (L' := [some (xr a0), some (xi a1), some (xr a2), some (xi (0 : Int)), some (xi (0 : Int))]) hY dX8_spansLookedAt_10 rfl (by rw [hnL]; decide) rfl rfl ?_
  refine xv_mk (L' := [some (xr a0), some (xi a1), some (xr a2), some (xi (0 : Int)), some (xi (0 : Int))]) [true, true, true, true, true] rfl ?_
  refine xv_loop (σ := Int × Int × xv_M) (fun x3 => [some (xr a0), some (xi a1), some (xr a2), some (xi x3.1), some (xi x3.2.1)]) (fun x3 => x3.2.2) (fun f4 hf4 x3 => ?_) xv_fuel ((0 : Int), (0 : Int), M2)
  refine xv_iload rfl hY dX8_spansLookedAt_12 rfl ?_
  refine xv_bipush (by decide) hY dX8_spansLookedAt_14 rfl ?_
  refine xv_icmp_ge (t := 59) hY dX8_spansLookedAt_16 (by decide) rfl ?_ ?_
  · refine xv_iload_n rfl rfl hY dX8_spansLookedAt_59 rfl ?_
    exact xv_ireti hY hfl dX8_spansLookedAt_60 hret (Nat.le_of_ble_eq_true rfl) (Nat.le_of_ble_eq_true rfl)
  · refine xv_aload_n rfl rfl hY dX8_spansLookedAt_19 rfl ?_
    refine xv_callVI (ci := 8) (y := yX8_isNode) (ws := wsX8_isNode) (rm := rm_X8_isNode) (mc := 0) (ms := 0) (n := 0) (av := []) hY dX8_spansLookedAt_20 rfl rfl rfl (by decide) (fun q hq => by rw [hfl]; exact S_X8_isNode Y.1.2.1 a0 x3.2.2 q hq) (cwV 0 hY.2.2.2.2.1 gX8_spansLookedAt_X8_isNode rfl rfl rfl (by decide +kernel) ⟨(by rw [hR]; exact Nat.le_of_ble_eq_true rfl), (by rw [hR]; exact Nat.le_of_ble_eq_true rfl)⟩) rfl (Nat.le_of_ble_eq_true rfl) ⟨(by rw [hR]; exact Nat.le_of_ble_eq_true rfl), (by rw [hR]; exact Nat.le_of_ble_eq_true rfl)⟩ (fun z6 M5 => ?_)
    refine xv_if_eq (t := 59) hY dX8_spansLookedAt_23 (by decide) rfl ?_ ?_
    · refine xv_iload_n rfl rfl hY dX8_spansLookedAt_59 rfl ?_
      exact xv_ireti hY hfl dX8_spansLookedAt_60 hret (Nat.le_of_ble_eq_true rfl) (Nat.le_of_ble_eq_true rfl)
    · refine xv_iload_n rfl rfl hY dX8_spansLookedAt_26 rfl ?_
      refine xv_aload_n rfl rfl hY dX8_spansLookedAt_27 rfl ?_
      refine xv_aload_n rfl rfl hY dX8_spansLookedAt_28 rfl ?_
      refine xv_getP (ci := 8) (j := 4) hY dX8_spansLookedAt_29 rfl rfl rfl (by decide) hin8 (by decide) rfl (List.mem_of_getElem? (i := 1) rfl) (fun v7 => ?_)
      refine xv_getI (ci := 10) (j := 2) hY dX8_spansLookedAt_32 rfl rfl rfl (by decide) hin10 (by decide) rfl (List.mem_of_getElem? (i := 2) rfl) (fun v8 => ?_)
      refine xv_iload_n rfl rfl hY dX8_spansLookedAt_35 rfl ?_
      refine xv_aload_n rfl rfl hY dX8_spansLookedAt_36 rfl ?_
      refine xv_callVI (ci := 8) (y := yX8_lookedAtIn) (ws := wsX8_lookedAtIn) (rm := rm_X8_lookedAtIn) (mc := 0) (ms := 0) (n := 3) (av := [xi v8, xi a1, xr a2]) hY dX8_spansLookedAt_37 rfl rfl rfl (by decide) (fun q hq => by rw [hfl]; exact S_X8_lookedAtIn Y.1.2.1 a0 v8 a1 a2 M5 q hq) (cwV 3 hY.2.2.2.2.1 gX8_spansLookedAt_X8_lookedAtIn rfl rfl rfl (by decide +kernel) ⟨(by rw [hR]; exact Nat.le_of_ble_eq_true rfl), (by rw [hR]; exact Nat.le_of_ble_eq_true rfl)⟩) rfl (Nat.le_of_ble_eq_true rfl) ⟨(by rw [hR]; exact Nat.le_of_ble_eq_true rfl), (by rw [hR]; exact Nat.le_of_ble_eq_true rfl)⟩ (fun z10 M9 => ?_)
      refine xv_iadd hY dX8_spansLookedAt_40 rfl ?_
      refine xv_istore_n (L' := [some (xr a0), some (xi a1), some (xr a2), some (xi (x3.1 + z10)), some (xi x3.2.1)]) hY dX8_spansLookedAt_41 rfl rfl (by rw [hnL]; decide) rfl rfl ?_
      refine xv_aload_n rfl rfl hY dX8_spansLookedAt_42 rfl ?_
      refine xv_iload_n rfl rfl hY dX8_spansLookedAt_43 rfl ?_
      refine xv_callVI (ci := 8) (y := yX8_goTowards) (ws := wsX8_goTowards) (rm := rm_X8_goTowards) (mc := 0) (ms := 0) (n := 1) (av := [xi a1]) hY dX8_spansLookedAt_44 rfl rfl rfl (by decide) (fun q hq => by rw [hfl]; exact S_X8_goTowards Y.1.2.1 a0 a1 M9 q hq) (cwV 1 hY.2.2.2.2.1 gX8_spansLookedAt_X8_goTowards rfl rfl rfl (by decide +kernel) ⟨(by rw [hR]; exact Nat.le_of_ble_eq_true rfl), (by rw [hR]; exact Nat.le_of_ble_eq_true rfl)⟩) rfl (Nat.le_of_ble_eq_true rfl) ⟨(by rw [hR]; exact Nat.le_of_ble_eq_true rfl), (by rw [hR]; exact Nat.le_of_ble_eq_true rfl)⟩ (fun z12 M11 => ?_)
      refine xv_if_ne (t := 53) hY dX8_spansLookedAt_47 (by decide) rfl ?_ ?_
      · refine xv_iinc (L' := [some (xr a0), some (xi a1), some (xr a2), some (xi (x3.1 + z10)), some (xi (x3.2.1 + 1))]) hY dX8_spansLookedAt_53 rfl (by rw [hnL]; decide) rfl rfl rfl ?_
        refine xv_goto (pc' := 12) hY dX8_spansLookedAt_56 (by decide) ?_
        exact xv_mk (L' := [some (xr a0), some (xi a1), some (xr a2), some (xi (x3.1 + z10)), some (xi (x3.2.1 + 1))]) [true, true, true, true, true] rfl (hf4 ((x3.1 + z10), (x3.2.1 + 1), M11))
      · refine xv_goto (pc' := 59) hY dX8_spansLookedAt_50 (by decide) ?_
        refine xv_iload_n rfl rfl hY dX8_spansLookedAt_59 rfl ?_
        exact xv_ireti hY hfl dX8_spansLookedAt_60 hret (Nat.le_of_ble_eq_true rfl) (Nat.le_of_ble_eq_true rfl)
set_option maxHeartbeats 4000000 in
set_option maxRecDepth 100000 in
theorem S_X8_countNodes (l : Launch) (a0 : Nat) (M : xv_M) (q : Int × xv_M) (h : D_X8_countNodes a0 M = some q) : xv_Met l yX8_countNodes wsX8_countNodes rm_X8_countNodes 0 0 false [xr a0] M (xv_qI false q) := by
  refine xv_enter (cc := cX8_countNodes) (nL := 3) (ret := (some .int)) rfl (by decide +kernel) (Nat.le_of_ble_eq_true rfl) h ?_
  intro Y hY0 hl hR hnL hfl hret hnm0
  have hY : xv_ok Y cX8_countNodes wsX8_countNodes RX8 := hY0
  have hin8 : ∀ w ∈ u_ws RX8 TX8 5, w ∈ wsX8_countNodes := fun _ h => List.mem_cons_of_mem _ (List.mem_append_right _ h)
  unfold D_X8_countNodes
  refine xv_mk (L' := [some (xr a0), none, none]) [true, true, true] rfl ?_
  refine xv_iconst hY dX8_countNodes_0 rfl ?_
  refine xv_istore_n (L' := [some (xr a0), some (xi (0 : Int)), none]) hY dX8_countNodes_1 rfl rfl (by rw [hnL]; decide) rfl rfl ?_
  refine xv_iconst hY dX8_countNodes_2 rfl ?_
  refine xv_istore_n (L' := [some (xr a0), some (xi (0 : Int)), some (xi (0 : Int))]) hY dX8_countNodes_3 rfl rfl (by rw [hnL]; decide) rfl rfl ?_
  refine xv_mk (L' := [some (xr a0), some (xi (0 : Int)), some (xi (0 : Int))]) [true, true, true] rfl ?_
  refine xv_loop (σ := Int × Int) (fun x1 => [some (xr a0), some (xi x1.1), some (xi x1.2)]) (fun x1 => M) (fun f2 hf2 x1 => ?_) xv_fuel ((0 : Int), (0 : Int))
  refine xv_iload_n rfl rfl hY dX8_countNodes_4 rfl ?_
  refine xv_sipush (by decide) hY dX8_countNodes_5 rfl ?_
  refine xv_icmp_ge (t := 29) hY dX8_countNodes_8 (by decide) rfl ?_ ?_
  · refine xv_iload_n rfl rfl hY dX8_countNodes_29 rfl ?_
    exact xv_ireti hY hfl dX8_countNodes_30 hret (Nat.le_of_ble_eq_true rfl) (Nat.le_of_ble_eq_true rfl)
  · refine xv_aload_n rfl rfl hY dX8_countNodes_11 rfl ?_
    refine xv_getP (ci := 8) (j := 3) hY dX8_countNodes_12 rfl rfl rfl (by decide) hin8 (by decide) rfl (List.mem_of_getElem? (i := 1) rfl) (fun v3 => ?_)
    refine xv_iload_n rfl rfl hY dX8_countNodes_15 rfl ?_
    refine xv_iald hY dX8_countNodes_16 rfl (fun v4 => ?_)
    refine xv_join (α := Int) 23 (fun x5 => [some (xr a0), some (xi x5), some (xi x1.2)]) (fun x5 => []) (fun x5 => M) (fun x5 => ?_) (fun j6 hj6 => ?_)
    · refine xv_iinc (L' := [some (xr a0), some (xi x5), some (xi (x1.2 + 1))]) hY dX8_countNodes_23 rfl (by rw [hnL]; decide) rfl rfl rfl ?_
      refine xv_goto (pc' := 4) hY dX8_countNodes_26 (by decide) ?_
      exact xv_mk (L' := [some (xr a0), some (xi x5), some (xi (x1.2 + 1))]) [true, true, true] rfl (hf2 (x5, (x1.2 + 1)))
    · refine xv_if_le (t := 23) hY dX8_countNodes_17 (by decide) rfl ?_ ?_
      · exact xv_mk (L' := [some (xr a0), some (xi x1.1), some (xi x1.2)]) [true, true, true] rfl (hj6 x1.1)
      · refine xv_iinc (L' := [some (xr a0), some (xi (x1.1 + 1)), some (xi x1.2)]) hY dX8_countNodes_20 rfl (by rw [hnL]; decide) rfl rfl rfl ?_
        exact xv_mk (L' := [some (xr a0), some (xi (x1.1 + 1)), some (xi x1.2)]) [true, true, true] rfl (hj6 (x1.1 + 1))
set_option maxHeartbeats 4000000 in
set_option maxRecDepth 100000 in
theorem S_X8_greatestDepth (l : Launch) (a0 : Nat) (a1 : Nat) (M : xv_M) (q : Int × xv_M) (h : D_X8_greatestDepth a0 a1 M = some q) : xv_Met l yX8_greatestDepth wsX8_greatestDepth rm_X8_greatestDepth 0 0 false [xr a0, xr a1] M (xv_qI false q) := by
  refine xv_enter (cc := cX8_greatestDepth) (nL := 4) (ret := (some .int)) rfl (by decide +kernel) (Nat.le_of_ble_eq_true rfl) h ?_
  intro Y hY0 hl hR hnL hfl hret hnm0
  have hY : xv_ok Y cX8_greatestDepth wsX8_greatestDepth RX8 := hY0
  have hin5 : ∀ w ∈ u_ws RX5 TX5 8, w ∈ wsX8_greatestDepth := fun _ h => List.mem_cons_of_mem _ (List.mem_append_left _ (List.mem_append_right _ h))
  have hin8 : ∀ w ∈ u_ws RX8 TX8 5, w ∈ wsX8_greatestDepth := fun _ h => List.mem_cons_of_mem _ (List.mem_append_right _ h)
  unfold D_X8_greatestDepth
  refine xv_mk (L' := [some (xr a0), some (xr a1), none, none]) [true, true, true, true] rfl ?_
  refine xv_iconst hY dX8_greatestDepth_0 rfl ?_
  refine xv_istore_n (L' := [some (xr a0), some (xr a1), some (xi (0 : Int)), none]) hY dX8_greatestDepth_1 rfl rfl (by rw [hnL]; decide) rfl rfl ?_
  refine xv_iconst hY dX8_greatestDepth_2 rfl ?_
  refine xv_istore_n (L' := [some (xr a0), some (xr a1), some (xi (0 : Int)), some (xi (0 : Int))]) hY dX8_greatestDepth_3 rfl rfl (by rw [hnL]; decide) rfl rfl ?_
  refine xv_mk (L' := [some (xr a0), some (xr a1), some (xi (0 : Int)), some (xi (0 : Int))]) [true, true, true, true] rfl ?_
  refine xv_loop (σ := Int × Int × xv_M) (fun x1 => [some (xr a0), some (xr a1), some (xi x1.1), some (xi x1.2.1)]) (fun x1 => x1.2.2) (fun f2 hf2 x1 => ?_) xv_fuel ((0 : Int), (0 : Int), M)
  refine xv_iload_n rfl rfl hY dX8_greatestDepth_4 rfl ?_
  refine xv_aload_n rfl rfl hY dX8_greatestDepth_5 rfl ?_
  refine xv_getI (ci := 5) (j := 0) hY dX8_greatestDepth_6 rfl rfl rfl (by decide) hin5 (by decide) rfl (List.mem_of_getElem? (i := 1) rfl) (fun v3 => ?_)
  refine xv_icmp_ge (t := 37) hY dX8_greatestDepth_9 (by decide) rfl ?_ ?_
  · refine xv_iload_n rfl rfl hY dX8_greatestDepth_37 rfl ?_
    exact xv_ireti hY hfl dX8_greatestDepth_38 hret (Nat.le_of_ble_eq_true rfl) (Nat.le_of_ble_eq_true rfl)
  · refine xv_aload_n rfl rfl hY dX8_greatestDepth_12 rfl ?_
    refine xv_iload_n rfl rfl hY dX8_greatestDepth_13 rfl ?_
    refine xv_callVI (ci := 5) (y := yX5_isThere) (ws := wsX5_isThere) (rm := rm_X5_isThere) (mc := 0) (ms := 0) (n := 1) (av := [xi x1.2.1]) hY dX8_greatestDepth_14 rfl rfl rfl (by decide) (fun q hq => by rw [hfl]; exact S_X5_isThere Y.1.2.1 a1 x1.2.1 x1.2.2 q hq) (cwV 1 hY.2.2.2.2.1 gX8_greatestDepth_X5_isThere rfl rfl rfl (by decide +kernel) ⟨(by rw [hR]; exact Nat.le_of_ble_eq_true rfl), (by rw [hR]; exact Nat.le_of_ble_eq_true rfl)⟩) rfl (Nat.le_of_ble_eq_true rfl) ⟨(by rw [hR]; exact Nat.le_of_ble_eq_true rfl), (by rw [hR]; exact Nat.le_of_ble_eq_true rfl)⟩ (fun z5 M4 => ?_)
    refine xv_join (α := Int × xv_M) 31 (fun x6 => [some (xr a0), some (xr a1), some (xi x6.1), some (xi x1.2.1)]) (fun x6 => []) (fun x6 => x6.2) (fun x6 => ?_) (fun j7 hj7 => ?_)
    · refine xv_iinc (L' := [some (xr a0), some (xr a1), some (xi x6.1), some (xi (x1.2.1 + 1))]) hY dX8_greatestDepth_31 rfl (by rw [hnL]; decide) rfl rfl rfl ?_
      refine xv_goto (pc' := 4) hY dX8_greatestDepth_34 (by decide) ?_
      exact xv_mk (L' := [some (xr a0), some (xr a1), some (xi x6.1), some (xi (x1.2.1 + 1))]) [true, true, true, true] rfl (hf2 (x6.1, (x1.2.1 + 1), x6.2))
    · refine xv_if_eq (t := 31) hY dX8_greatestDepth_17 (by decide) rfl ?_ ?_
      · exact xv_mk (L' := [some (xr a0), some (xr a1), some (xi x1.1), some (xi x1.2.1)]) [true, true, true, true] rfl (hj7 (x1.1, M4))
      · refine xv_iload_n rfl rfl hY dX8_greatestDepth_20 rfl ?_
        refine xv_aload_n rfl rfl hY dX8_greatestDepth_21 rfl ?_
        refine xv_getP (ci := 8) (j := 1) hY dX8_greatestDepth_22 rfl rfl rfl (by decide) hin8 (by decide) rfl (List.mem_of_getElem? (i := 2) rfl) (fun v8 => ?_)
        refine xv_iload_n rfl rfl hY dX8_greatestDepth_25 rfl ?_
        refine xv_iald hY dX8_greatestDepth_26 rfl (fun v9 => ?_)
        refine xv_mmax hY dX8_greatestDepth_27 rfl (by decide +kernel) (by decide +kernel) (by decide +kernel) (by decide +kernel) (by rw [hR]; exact Nat.le_of_ble_eq_true rfl) (by rw [hR]; exact Nat.le_of_ble_eq_true rfl) (by rw [hR]; exact Nat.le_of_ble_eq_true rfl) (by rw [hR]; exact Nat.le_of_ble_eq_true rfl) (fun v10 => ?_)
        refine xv_istore_n (L' := [some (xr a0), some (xr a1), some (xi v10), some (xi x1.2.1)]) hY dX8_greatestDepth_30 rfl rfl (by rw [hnL]; decide) rfl rfl ?_
        exact xv_mk (L' := [some (xr a0), some (xr a1), some (xi v10), some (xi x1.2.1)]) [true, true, true, true] rfl (hj7 (v10, M4))
set_option maxHeartbeats 4000000 in
set_option maxRecDepth 100000 in
theorem S_X8_fullestMiddle (l : Launch) (a0 : Nat) (M : xv_M) (q : Int × xv_M) (h : D_X8_fullestMiddle a0 M = some q) : xv_Met l yX8_fullestMiddle wsX8_fullestMiddle rm_X8_fullestMiddle 0 0 false [xr a0] M (xv_qI false q) := by
  refine xv_enter (cc := cX8_fullestMiddle) (nL := 3) (ret := (some .int)) rfl (by decide +kernel) (Nat.le_of_ble_eq_true rfl) h ?_
  intro Y hY0 hl hR hnL hfl hret hnm0
  have hY : xv_ok Y cX8_fullestMiddle wsX8_fullestMiddle RX8 := hY0
  have hin8 : ∀ w ∈ u_ws RX8 TX8 5, w ∈ wsX8_fullestMiddle := fun _ h => List.mem_cons_of_mem _ (List.mem_append_right _ h)
  unfold D_X8_fullestMiddle
  refine xv_mk (L' := [some (xr a0), none, none]) [true, true, true] rfl ?_
  refine xv_iconst hY dX8_fullestMiddle_0 rfl ?_
  refine xv_istore_n (L' := [some (xr a0), some (xi (0 : Int)), none]) hY dX8_fullestMiddle_1 rfl rfl (by rw [hnL]; decide) rfl rfl ?_
  refine xv_iconst hY dX8_fullestMiddle_2 rfl ?_
  refine xv_istore_n (L' := [some (xr a0), some (xi (0 : Int)), some (xi (1 : Int))]) hY dX8_fullestMiddle_3 rfl rfl (by rw [hnL]; decide) rfl rfl ?_
  refine xv_mk (L' := [some (xr a0), some (xi (0 : Int)), some (xi (1 : Int))]) [true, true, true] rfl ?_
  refine xv_loop (σ := Int × Int) (fun x1 => [some (xr a0), some (xi x1.1), some (xi x1.2)]) (fun x1 => M) (fun f2 hf2 x1 => ?_) xv_fuel ((0 : Int), (1 : Int))
  refine xv_iload_n rfl rfl hY dX8_fullestMiddle_4 rfl ?_
  refine xv_sipush (by decide) hY dX8_fullestMiddle_5 rfl ?_
  refine xv_icmp_ge (t := 34) hY dX8_fullestMiddle_8 (by decide) rfl ?_ ?_
  · refine xv_iload_n rfl rfl hY dX8_fullestMiddle_34 rfl ?_
    exact xv_ireti hY hfl dX8_fullestMiddle_35 hret (Nat.le_of_ble_eq_true rfl) (Nat.le_of_ble_eq_true rfl)
  · refine xv_aload_n rfl rfl hY dX8_fullestMiddle_11 rfl ?_
    refine xv_getP (ci := 8) (j := 2) hY dX8_fullestMiddle_12 rfl rfl rfl (by decide) hin8 (by decide) rfl (List.mem_of_getElem? (i := 1) rfl) (fun v3 => ?_)
    refine xv_iload_n rfl rfl hY dX8_fullestMiddle_15 rfl ?_
    refine xv_iald hY dX8_fullestMiddle_16 rfl (fun v4 => ?_)
    refine xv_aload_n rfl rfl hY dX8_fullestMiddle_17 rfl ?_
    refine xv_getP (ci := 8) (j := 2) hY dX8_fullestMiddle_18 rfl rfl rfl (by decide) hin8 (by decide) rfl (List.mem_of_getElem? (i := 1) rfl) (fun v5 => ?_)
    refine xv_iload_n rfl rfl hY dX8_fullestMiddle_21 rfl ?_
    refine xv_iald hY dX8_fullestMiddle_22 rfl (fun v6 => ?_)
    refine xv_join (α := Int) 28 (fun x7 => [some (xr a0), some (xi x7), some (xi x1.2)]) (fun x7 => []) (fun x7 => M) (fun x7 => ?_) (fun j8 hj8 => ?_)
    · refine xv_iinc (L' := [some (xr a0), some (xi x7), some (xi (x1.2 + 1))]) hY dX8_fullestMiddle_28 rfl (by rw [hnL]; decide) rfl rfl rfl ?_
      refine xv_goto (pc' := 4) hY dX8_fullestMiddle_31 (by decide) ?_
      exact xv_mk (L' := [some (xr a0), some (xi x7), some (xi (x1.2 + 1))]) [true, true, true] rfl (hf2 (x7, (x1.2 + 1)))
    · refine xv_icmp_le (t := 28) hY dX8_fullestMiddle_23 (by decide) rfl ?_ ?_
      · exact xv_mk (L' := [some (xr a0), some (xi x1.1), some (xi x1.2)]) [true, true, true] rfl (hj8 x1.1)
      · refine xv_iload_n rfl rfl hY dX8_fullestMiddle_26 rfl ?_
        refine xv_istore_n (L' := [some (xr a0), some (xi x1.2), some (xi x1.2)]) hY dX8_fullestMiddle_27 rfl rfl (by rw [hnL]; decide) rfl rfl ?_
        exact xv_mk (L' := [some (xr a0), some (xi x1.2), some (xi x1.2)]) [true, true, true] rfl (hj8 x1.2)
set_option maxHeartbeats 4000000 in
set_option maxRecDepth 100000 in
theorem S_X8_mostInOneNode (l : Launch) (a0 : Nat) (M : xv_M) (q : Int × xv_M) (h : D_X8_mostInOneNode a0 M = some q) : xv_Met l yX8_mostInOneNode wsX8_mostInOneNode rm_X8_mostInOneNode 0 0 false [xr a0] M (xv_qI false q) := by
  refine xv_enter (cc := cX8_mostInOneNode) (nL := 1) (ret := (some .int)) rfl (by decide +kernel) (Nat.le_of_ble_eq_true rfl) h ?_
  intro Y hY0 hl hR hnL hfl hret hnm0
  have hY : xv_ok Y cX8_mostInOneNode wsX8_mostInOneNode RX8 := hY0
  have hin8 : ∀ w ∈ u_ws RX8 TX8 5, w ∈ wsX8_mostInOneNode := fun _ h => List.mem_cons_of_mem _ (List.mem_append_right _ h)
  unfold D_X8_mostInOneNode
  refine xv_mk (L' := [some (xr a0)]) [true] rfl ?_
  refine xv_aload_n rfl rfl hY dX8_mostInOneNode_0 rfl ?_
  refine xv_getP (ci := 8) (j := 2) hY dX8_mostInOneNode_1 rfl rfl rfl (by decide) hin8 (by decide) rfl (List.mem_of_getElem? (i := 1) rfl) (fun v1 => ?_)
  refine xv_aload_n rfl rfl hY dX8_mostInOneNode_4 rfl ?_
  refine xv_callVI (ci := 8) (y := yX8_fullestMiddle) (ws := wsX8_fullestMiddle) (rm := rm_X8_fullestMiddle) (mc := 0) (ms := 0) (n := 0) (av := []) hY dX8_mostInOneNode_5 rfl rfl rfl (by decide) (fun q hq => by rw [hfl]; exact S_X8_fullestMiddle Y.1.2.1 a0 M q hq) (cwV 0 hY.2.2.2.2.1 gX8_mostInOneNode_X8_fullestMiddle rfl rfl rfl (by decide +kernel) ⟨(by rw [hR]; exact Nat.le_of_ble_eq_true rfl), (by rw [hR]; exact Nat.le_of_ble_eq_true rfl)⟩) rfl (Nat.le_of_ble_eq_true rfl) ⟨(by rw [hR]; exact Nat.le_of_ble_eq_true rfl), (by rw [hR]; exact Nat.le_of_ble_eq_true rfl)⟩ (fun z3 M2 => ?_)
  refine xv_iald hY dX8_mostInOneNode_8 rfl (fun v4 => ?_)
  exact xv_ireti hY hfl dX8_mostInOneNode_9 hret (Nat.le_of_ble_eq_true rfl) (Nat.le_of_ble_eq_true rfl)
set_option maxHeartbeats 4000000 in
set_option maxRecDepth 100000 in
theorem S_X9_has (l : Launch) (a0 : Nat) (a1 : Int) (M : xv_M) (q : Int × xv_M) (h : D_X9_has a0 a1 M = some q) : xv_Met l yX9_has wsX9_has rm_X9_has 0 0 false [xr a0, xi a1] M (xv_qI false q) := by
  refine xv_enter (cc := cX9_has) (nL := 2) (ret := (some .boolean)) rfl (by decide +kernel) (Nat.le_of_ble_eq_true rfl) h ?_
  intro Y hY0 hl hR hnL hfl hret hnm0
  have hY : xv_ok Y cX9_has wsX9_has RX9 := hY0
  have hin9 : ∀ w ∈ u_ws RX9 TX9 9, w ∈ wsX9_has := fun _ h => List.mem_cons_of_mem _ (List.mem_append_right _ h)
  unfold D_X9_has
  refine xv_mk (L' := [some (xr a0), some (xi a1)]) [true, true] rfl ?_
  refine xv_iload_n rfl rfl hY dX9_has_0 rfl ?_
  refine xv_if_lt (t := 16) hY dX9_has_1 (by decide) rfl ?_ ?_
  · refine xv_iconst hY dX9_has_16 rfl ?_
    exact xv_iretz hY hfl dX9_has_17 hret (Nat.le_of_ble_eq_true rfl) (Nat.le_of_ble_eq_true rfl)
  · refine xv_iload_n rfl rfl hY dX9_has_4 rfl ?_
    refine xv_aload_n rfl rfl hY dX9_has_5 rfl ?_
    refine xv_getI (ci := 9) (j := 0) hY dX9_has_6 rfl rfl rfl (by decide) hin9 (by decide) rfl (List.mem_of_getElem? (i := 1) rfl) (fun v1 => ?_)
    refine xv_icmp_ge (t := 16) hY dX9_has_9 (by decide) rfl ?_ ?_
    · refine xv_iconst hY dX9_has_16 rfl ?_
      exact xv_iretz hY hfl dX9_has_17 hret (Nat.le_of_ble_eq_true rfl) (Nat.le_of_ble_eq_true rfl)
    · refine xv_iconst hY dX9_has_12 rfl ?_
      refine xv_goto (pc' := 17) hY dX9_has_13 (by decide) ?_
      exact xv_iretz hY hfl dX9_has_17 hret (Nat.le_of_ble_eq_true rfl) (Nat.le_of_ble_eq_true rfl)
set_option maxHeartbeats 4000000 in
set_option maxRecDepth 100000 in
theorem S_X9_countInside (l : Launch) (a0 : Nat) (a1 : Int) (M : xv_M) (q : Int × xv_M) (h : D_X9_countInside a0 a1 M = some q) : xv_Met l yX9_countInside wsX9_countInside rm_X9_countInside 0 0 false [xr a0, xi a1] M (xv_qI false q) := by
  refine xv_enter (cc := cX9_countInside) (nL := 4) (ret := (some .int)) rfl (by decide +kernel) (Nat.le_of_ble_eq_true rfl) h ?_
  intro Y hY0 hl hR hnL hfl hret hnm0
  have hY : xv_ok Y cX9_countInside wsX9_countInside RX9 := hY0
  have hin9 : ∀ w ∈ u_ws RX9 TX9 9, w ∈ wsX9_countInside := fun _ h => List.mem_cons_of_mem _ (List.mem_append_right _ h)
  unfold D_X9_countInside
  refine xv_mk (L' := [some (xr a0), some (xi a1), none, none]) [true, true, true, true] rfl ?_
  refine xv_iconst hY dX9_countInside_0 rfl ?_
  refine xv_istore_n (L' := [some (xr a0), some (xi a1), some (xi (0 : Int)), none]) hY dX9_countInside_1 rfl rfl (by rw [hnL]; decide) rfl rfl ?_
  refine xv_iconst hY dX9_countInside_2 rfl ?_
  refine xv_istore_n (L' := [some (xr a0), some (xi a1), some (xi (0 : Int)), some (xi (0 : Int))]) hY dX9_countInside_3 rfl rfl (by rw [hnL]; decide) rfl rfl ?_
  refine xv_mk (L' := [some (xr a0), some (xi a1), some (xi (0 : Int)), some (xi (0 : Int))]) [true, true, true, true] rfl ?_
  refine xv_loop (σ := Int × Int × xv_M) (fun x1 => [some (xr a0), some (xi a1), some (xi x1.1), some (xi x1.2.1)]) (fun x1 => x1.2.2) (fun f2 hf2 x1 => ?_) xv_fuel ((0 : Int), (0 : Int), M)
  refine xv_iload_n rfl rfl hY dX9_countInside_4 rfl ?_
  refine xv_aload_n rfl rfl hY dX9_countInside_5 rfl ?_
  refine xv_getI (ci := 9) (j := 0) hY dX9_countInside_6 rfl rfl rfl (by decide) hin9 (by decide) rfl (List.mem_of_getElem? (i := 1) rfl) (fun v3 => ?_)
  refine xv_icmp_ge (t := 34) hY dX9_countInside_9 (by decide) rfl ?_ ?_
  · refine xv_iload_n rfl rfl hY dX9_countInside_34 rfl ?_
    exact xv_ireti hY hfl dX9_countInside_35 hret (Nat.le_of_ble_eq_true rfl) (Nat.le_of_ble_eq_true rfl)
  · refine xv_aload_n rfl rfl hY dX9_countInside_12 rfl ?_
    refine xv_getP (ci := 9) (j := 3) hY dX9_countInside_13 rfl rfl rfl (by decide) hin9 (by decide) rfl (List.mem_of_getElem? (i := 2) rfl) (fun v4 => ?_)
    refine xv_iload_n rfl rfl hY dX9_countInside_16 rfl ?_
    refine xv_lald hY dX9_countInside_17 rfl (fun v5 => ?_)
    refine xv_iload_n rfl rfl hY dX9_countInside_18 rfl ?_
    refine xv_callSNI (y := yX11_isMember) (ws := wsX11_isMember) (rm := rm_X11_isMember) (mc := 0) (ms := 0) (n := 2) (av := [xl v5, xi a1]) hY dX9_countInside_19 rfl rfl (fun q hq => by rw [hfl]; exact S_X11_isMember Y.1.2.1 v5 a1 x1.2.2 q hq) ⟨va_cnB 2 hY.2.2.2.2.1 gX9_countInside_X11_isMember_n60 rfl rfl rfl (hY.2.2.2.2.2.1.2.1 _ (List.mem_of_getElem? (i := 18) rfl)) (hY.2.2.2.2.1 _ (by decide +kernel)) (by decide +kernel) ⟨(by rw [hR]; exact Nat.le_of_ble_eq_true rfl), (by rw [hR]; exact Nat.le_of_ble_eq_true rfl)⟩, hY.2.2.2.2.1 _ (by decide +kernel), trivial⟩ rfl (Nat.le_of_ble_eq_true rfl) ⟨(by rw [hR]; exact Nat.le_of_ble_eq_true rfl), (by rw [hR]; exact Nat.le_of_ble_eq_true rfl)⟩ (fun z7 M6 => ?_)
    refine xv_join (α := Int) 28 (fun x8 => [some (xr a0), some (xi a1), some (xi x8), some (xi x1.2.1)]) (fun x8 => []) (fun x8 => M6) (fun x8 => ?_) (fun j9 hj9 => ?_)
    · refine xv_iinc (L' := [some (xr a0), some (xi a1), some (xi x8), some (xi (x1.2.1 + 1))]) hY dX9_countInside_28 rfl (by rw [hnL]; decide) rfl rfl rfl ?_
      refine xv_goto (pc' := 4) hY dX9_countInside_31 (by decide) ?_
      exact xv_mk (L' := [some (xr a0), some (xi a1), some (xi x8), some (xi (x1.2.1 + 1))]) [true, true, true, true] rfl (hf2 (x8, (x1.2.1 + 1), M6))
    · refine xv_if_eq (t := 28) hY dX9_countInside_22 (by decide) rfl ?_ ?_
      · exact xv_mk (L' := [some (xr a0), some (xi a1), some (xi x1.1), some (xi x1.2.1)]) [true, true, true, true] rfl (hj9 x1.1)
      · refine xv_iinc (L' := [some (xr a0), some (xi a1), some (xi (x1.1 + 1)), some (xi x1.2.1)]) hY dX9_countInside_25 rfl (by rw [hnL]; decide) rfl rfl rfl ?_
        exact xv_mk (L' := [some (xr a0), some (xi a1), some (xi (x1.1 + 1)), some (xi x1.2.1)]) [true, true, true, true] rfl (hj9 (x1.1 + 1))
set_option maxHeartbeats 4000000 in
set_option maxRecDepth 100000 in
theorem S_X9_insideOfAny (l : Launch) (a0 : Nat) (M : xv_M) (q : Int64 × xv_M) (h : D_X9_insideOfAny a0 M = some q) : xv_Met l yX9_insideOfAny wsX9_insideOfAny rm_X9_insideOfAny 0 0 false [xr a0] M (xv_qJ false q) := by
  refine xv_enter (cc := cX9_insideOfAny) (nL := 4) (ret := (some .long)) rfl (by decide +kernel) (Nat.le_of_ble_eq_true rfl) h ?_
  intro Y hY0 hl hR hnL hfl hret hnm0
  have hY : xv_ok Y cX9_insideOfAny wsX9_insideOfAny RX9 := hY0
  have hin9 : ∀ w ∈ u_ws RX9 TX9 9, w ∈ wsX9_insideOfAny := fun _ h => List.mem_cons_of_mem _ (List.mem_append_right _ h)
  unfold D_X9_insideOfAny
  refine xv_mk (L' := [some (xr a0), none, none, none]) [true, true, true, true] rfl ?_
  refine xv_lconst (v := 0) rfl hY dX9_insideOfAny_0 rfl ?_
  refine xv_lstore_n (L' := [some (xr a0), some (xl (0 : Int64)), none, none]) hY dX9_insideOfAny_1 rfl rfl (by rw [hnL]; decide) rfl rfl ?_
  refine xv_iconst hY dX9_insideOfAny_2 rfl ?_
  refine xv_istore_n (L' := [some (xr a0), some (xl (0 : Int64)), none, some (xi (0 : Int))]) hY dX9_insideOfAny_3 rfl rfl (by rw [hnL]; decide) rfl rfl ?_
  refine xv_mk (L' := [some (xr a0), some (xl (0 : Int64)), none, some (xi (0 : Int))]) [true, true, false, true] rfl ?_
  refine xv_loop (σ := Int64 × Int) (fun x1 => [some (xr a0), some (xl x1.1), none, some (xi x1.2)]) (fun x1 => M) (fun f2 hf2 x1 => ?_) xv_fuel ((0 : Int64), (0 : Int))
  refine xv_iload_n rfl rfl hY dX9_insideOfAny_4 rfl ?_
  refine xv_aload_n rfl rfl hY dX9_insideOfAny_5 rfl ?_
  refine xv_getI (ci := 9) (j := 0) hY dX9_insideOfAny_6 rfl rfl rfl (by decide) hin9 (by decide) rfl (List.mem_of_getElem? (i := 1) rfl) (fun v3 => ?_)
  refine xv_icmp_ge (t := 27) hY dX9_insideOfAny_9 (by decide) rfl ?_ ?_
  · refine xv_lload_n rfl rfl hY dX9_insideOfAny_27 rfl ?_
    exact xv_lretj hY hfl dX9_insideOfAny_28 hret (Nat.le_of_ble_eq_true rfl) (Nat.le_of_ble_eq_true rfl)
  · refine xv_lload_n rfl rfl hY dX9_insideOfAny_12 rfl ?_
    refine xv_aload_n rfl rfl hY dX9_insideOfAny_13 rfl ?_
    refine xv_getP (ci := 9) (j := 3) hY dX9_insideOfAny_14 rfl rfl rfl (by decide) hin9 (by decide) rfl (List.mem_of_getElem? (i := 2) rfl) (fun v4 => ?_)
    refine xv_iload_n rfl rfl hY dX9_insideOfAny_17 rfl ?_
    refine xv_lald hY dX9_insideOfAny_18 rfl (fun v5 => ?_)
    refine xv_lor hY dX9_insideOfAny_19 rfl ?_
    refine xv_lstore_n (L' := [some (xr a0), some (xl (x1.1 ||| v5)), none, some (xi x1.2)]) hY dX9_insideOfAny_20 rfl rfl (by rw [hnL]; decide) rfl rfl ?_
    refine xv_iinc (L' := [some (xr a0), some (xl (x1.1 ||| v5)), none, some (xi (x1.2 + 1))]) hY dX9_insideOfAny_21 rfl (by rw [hnL]; decide) rfl rfl rfl ?_
    refine xv_goto (pc' := 4) hY dX9_insideOfAny_24 (by decide) ?_
    exact xv_mk (L' := [some (xr a0), some (xl (x1.1 ||| v5)), none, some (xi (x1.2 + 1))]) [true, true, false, true] rfl (hf2 ((x1.1 ||| v5), (x1.2 + 1)))
set_option maxHeartbeats 4000000 in
set_option maxRecDepth 100000 in
theorem S_X9_oldestSpan (l : Launch) (a0 : Nat) (a1 : Int) (M : xv_M) (q : Int × xv_M) (h : D_X9_oldestSpan a0 a1 M = some q) : xv_Met l yX9_oldestSpan wsX9_oldestSpan rm_X9_oldestSpan 0 0 false [xr a0, xi a1] M (xv_qI false q) := by
  refine xv_enter (cc := cX9_oldestSpan) (nL := 5) (ret := (some .int)) rfl (by decide +kernel) (Nat.le_of_ble_eq_true rfl) h ?_
  intro Y hY0 hl hR hnL hfl hret hnm0
  have hY : xv_ok Y cX9_oldestSpan wsX9_oldestSpan RX9 := hY0
  have hin9 : ∀ w ∈ u_ws RX9 TX9 9, w ∈ wsX9_oldestSpan := fun _ h => List.mem_cons_of_mem _ (List.mem_append_right _ h)
  unfold D_X9_oldestSpan
  refine xv_mk (L' := [some (xr a0), some (xi a1), none, none, none]) [true, true, true, true, true] rfl ?_
  refine xv_bipush (by decide) hY dX9_oldestSpan_0 rfl ?_
  refine xv_istore_n (L' := [some (xr a0), some (xi a1), some (xi (-5 : Int)), none, none]) hY dX9_oldestSpan_2 rfl rfl (by rw [hnL]; decide) rfl rfl ?_
  refine xv_sipush (by decide) hY dX9_oldestSpan_3 rfl ?_
  refine xv_istore_n (L' := [some (xr a0), some (xi a1), some (xi (-5 : Int)), some (xi (10000 : Int)), none]) hY dX9_oldestSpan_6 rfl rfl (by rw [hnL]; decide) rfl rfl ?_
  refine xv_iconst hY dX9_oldestSpan_7 rfl ?_
  refine xv_istore (L' := [some (xr a0), some (xi a1), some (xi (-5 : Int)), some (xi (10000 : Int)), some (xi (0 : Int))]) hY dX9_oldestSpan_8 rfl (by rw [hnL]; decide) rfl rfl ?_
  refine xv_mk (L' := [some (xr a0), some (xi a1), some (xi (-5 : Int)), some (xi (10000 : Int)), some (xi (0 : Int))]) [true, true, true, true, true] rfl ?_
  refine xv_loop (σ := Int × Int × Int × xv_M) (fun x1 => [some (xr a0), some (xi a1), some (xi x1.1), some (xi x1.2.1), some (xi x1.2.2.1)]) (fun x1 => x1.2.2.2) (fun f2 hf2 x1 => ?_) xv_fuel ((-5 : Int), (10000 : Int), (0 : Int), M)
  refine xv_iload rfl hY dX9_oldestSpan_10 rfl ?_
  refine xv_bipush (by decide) hY dX9_oldestSpan_12 rfl ?_
  refine xv_icmp_ge (t := 63) hY dX9_oldestSpan_14 (by decide) rfl ?_ ?_
  · refine xv_iload_n rfl rfl hY dX9_oldestSpan_63 rfl ?_
    exact xv_ireti hY hfl dX9_oldestSpan_64 hret (Nat.le_of_ble_eq_true rfl) (Nat.le_of_ble_eq_true rfl)
  · refine xv_aload_n rfl rfl hY dX9_oldestSpan_17 rfl ?_
    refine xv_getP (ci := 9) (j := 3) hY dX9_oldestSpan_18 rfl rfl rfl (by decide) hin9 (by decide) rfl (List.mem_of_getElem? (i := 1) rfl) (fun v3 => ?_)
    refine xv_iload_n rfl rfl hY dX9_oldestSpan_21 rfl ?_
    refine xv_lald hY dX9_oldestSpan_22 rfl (fun v4 => ?_)
    refine xv_iload rfl hY dX9_oldestSpan_23 rfl ?_
    refine xv_callSNI (y := yX11_isMember) (ws := wsX11_isMember) (rm := rm_X11_isMember) (mc := 0) (ms := 0) (n := 2) (av := [xl v4, xi x1.2.2.1]) hY dX9_oldestSpan_25 rfl rfl (fun q hq => by rw [hfl]; exact S_X11_isMember Y.1.2.1 v4 x1.2.2.1 x1.2.2.2 q hq) ⟨va_cnB 2 hY.2.2.2.2.1 gX9_oldestSpan_X11_isMember_n60 rfl rfl rfl (hY.2.2.2.2.2.1.2.1 _ (List.mem_of_getElem? (i := 18) rfl)) (hY.2.2.2.2.1 _ (by decide +kernel)) (by decide +kernel) ⟨(by rw [hR]; exact Nat.le_of_ble_eq_true rfl), (by rw [hR]; exact Nat.le_of_ble_eq_true rfl)⟩, hY.2.2.2.2.1 _ (by decide +kernel), trivial⟩ rfl (Nat.le_of_ble_eq_true rfl) ⟨(by rw [hR]; exact Nat.le_of_ble_eq_true rfl), (by rw [hR]; exact Nat.le_of_ble_eq_true rfl)⟩ (fun z6 M5 => ?_)
    refine xv_join (α := Int × Int) 57 (fun x7 => [some (xr a0), some (xi a1), some (xi x7.1), some (xi x7.2), some (xi x1.2.2.1)]) (fun x7 => []) (fun x7 => M5) (fun x7 => ?_) (fun j8 hj8 => ?_)
    · refine xv_iinc (L' := [some (xr a0), some (xi a1), some (xi x7.1), some (xi x7.2), some (xi (x1.2.2.1 + 1))]) hY dX9_oldestSpan_57 rfl (by rw [hnL]; decide) rfl rfl rfl ?_
      refine xv_goto (pc' := 10) hY dX9_oldestSpan_60 (by decide) ?_
      exact xv_mk (L' := [some (xr a0), some (xi a1), some (xi x7.1), some (xi x7.2), some (xi (x1.2.2.1 + 1))]) [true, true, true, true, true] rfl (hf2 (x7.1, x7.2, (x1.2.2.1 + 1), M5))
    · refine xv_if_eq (t := 57) hY dX9_oldestSpan_28 (by decide) rfl ?_ ?_
      · exact xv_mk (L' := [some (xr a0), some (xi a1), some (xi x1.1), some (xi x1.2.1), some (xi x1.2.2.1)]) [true, true, true, true, true] rfl (hj8 (x1.1, x1.2.1))
      · refine xv_aload_n rfl rfl hY dX9_oldestSpan_31 rfl ?_
        refine xv_getP (ci := 9) (j := 8) hY dX9_oldestSpan_32 rfl rfl rfl (by decide) hin9 (by decide) rfl (List.mem_of_getElem? (i := 2) rfl) (fun v9 => ?_)
        refine xv_iload_n rfl rfl hY dX9_oldestSpan_35 rfl ?_
        refine xv_aaldI hY dX9_oldestSpan_36 rfl (fun v10 => ?_)
        refine xv_iload rfl hY dX9_oldestSpan_37 rfl ?_
        refine xv_iald hY dX9_oldestSpan_39 rfl (fun v11 => ?_)
        refine xv_iload_n rfl rfl hY dX9_oldestSpan_40 rfl ?_
        refine xv_icmp_ge (t := 57) hY dX9_oldestSpan_41 (by decide) rfl ?_ ?_
        · exact xv_mk (L' := [some (xr a0), some (xi a1), some (xi x1.1), some (xi x1.2.1), some (xi x1.2.2.1)]) [true, true, true, true, true] rfl (hj8 (x1.1, x1.2.1))
        · refine xv_iload rfl hY dX9_oldestSpan_44 rfl ?_
          refine xv_istore_n (L' := [some (xr a0), some (xi a1), some (xi x1.2.2.1), some (xi x1.2.1), some (xi x1.2.2.1)]) hY dX9_oldestSpan_46 rfl rfl (by rw [hnL]; decide) rfl rfl ?_
          refine xv_aload_n rfl rfl hY dX9_oldestSpan_47 rfl ?_
          refine xv_getP (ci := 9) (j := 8) hY dX9_oldestSpan_48 rfl rfl rfl (by decide) hin9 (by decide) rfl (List.mem_of_getElem? (i := 2) rfl) (fun v12 => ?_)
          refine xv_iload_n rfl rfl hY dX9_oldestSpan_51 rfl ?_
          refine xv_aaldI hY dX9_oldestSpan_52 rfl (fun v13 => ?_)
          refine xv_iload rfl hY dX9_oldestSpan_53 rfl ?_
          refine xv_iald hY dX9_oldestSpan_55 rfl (fun v14 => ?_)
          refine xv_istore_n (L' := [some (xr a0), some (xi a1), some (xi x1.2.2.1), some (xi v14), some (xi x1.2.2.1)]) hY dX9_oldestSpan_56 rfl rfl (by rw [hnL]; decide) rfl rfl ?_
          exact xv_mk (L' := [some (xr a0), some (xi a1), some (xi x1.2.2.1), some (xi v14), some (xi x1.2.2.1)]) [true, true, true, true, true] rfl (hj8 (x1.2.2.1, v14))
set_option maxHeartbeats 4000000 in
set_option maxRecDepth 100000 in
theorem S_X9_ticksToMeet (l : Launch) (a0 : Nat) (a1 : Int) (a2 : Int) (M : xv_M) (q : Int × xv_M) (h : D_X9_ticksToMeet a0 a1 a2 M = some q) : xv_Met l yX9_ticksToMeet wsX9_ticksToMeet rm_X9_ticksToMeet 0 0 false [xr a0, xi a1, xi a2] M (xv_qI false q) := by
  refine xv_enter (cc := cX9_ticksToMeet) (nL := 10) (ret := (some .int)) rfl (by decide +kernel) (Nat.le_of_ble_eq_true rfl) h ?_
  intro Y hY0 hl hR hnL hfl hret hnm0
  have hY : xv_ok Y cX9_ticksToMeet wsX9_ticksToMeet RX9 := hY0
  have hin9 : ∀ w ∈ u_ws RX9 TX9 9, w ∈ wsX9_ticksToMeet := fun _ h => List.mem_cons_of_mem _ (List.mem_append_right _ h)
  unfold D_X9_ticksToMeet
  refine xv_mk (L' := [some (xr a0), some (xi a1), some (xi a2), none, none, none, none, none, none, none]) [true, true, true, true, true, true, true, true, true, true] rfl ?_
  refine xv_aload_n rfl rfl hY dX9_ticksToMeet_0 rfl ?_
  refine xv_getP (ci := 9) (j := 1) hY dX9_ticksToMeet_1 rfl rfl rfl (by decide) hin9 (by decide) rfl (List.mem_of_getElem? (i := 1) rfl) (fun v1 => ?_)
  refine xv_iload_n rfl rfl hY dX9_ticksToMeet_4 rfl ?_
  refine xv_iald hY dX9_ticksToMeet_5 rfl (fun v2 => ?_)
  refine xv_istore_n (L' := [some (xr a0), some (xi a1), some (xi a2), some (xi v2), none, none, none, none, none, none]) hY dX9_ticksToMeet_6 rfl rfl (by rw [hnL]; decide) rfl rfl ?_
  refine xv_aload_n rfl rfl hY dX9_ticksToMeet_7 rfl ?_
  refine xv_getP (ci := 9) (j := 2) hY dX9_ticksToMeet_8 rfl rfl rfl (by decide) hin9 (by decide) rfl (List.mem_of_getElem? (i := 2) rfl) (fun v3 => ?_)
  refine xv_iload_n rfl rfl hY dX9_ticksToMeet_11 rfl ?_
  refine xv_iald hY dX9_ticksToMeet_12 rfl (fun v4 => ?_)
  refine xv_istore (L' := [some (xr a0), some (xi a1), some (xi a2), some (xi v2), some (xi v4), none, none, none, none, none]) hY dX9_ticksToMeet_13 rfl (by rw [hnL]; decide) rfl rfl ?_
  refine xv_aload_n rfl rfl hY dX9_ticksToMeet_15 rfl ?_
  refine xv_getP (ci := 9) (j := 1) hY dX9_ticksToMeet_16 rfl rfl rfl (by decide) hin9 (by decide) rfl (List.mem_of_getElem? (i := 1) rfl) (fun v5 => ?_)
  refine xv_iload_n rfl rfl hY dX9_ticksToMeet_19 rfl ?_
  refine xv_iald hY dX9_ticksToMeet_20 rfl (fun v6 => ?_)
  refine xv_istore (L' := [some (xr a0), some (xi a1), some (xi a2), some (xi v2), some (xi v4), some (xi v6), none, none, none, none]) hY dX9_ticksToMeet_21 rfl (by rw [hnL]; decide) rfl rfl ?_
  refine xv_aload_n rfl rfl hY dX9_ticksToMeet_23 rfl ?_
  refine xv_getP (ci := 9) (j := 2) hY dX9_ticksToMeet_24 rfl rfl rfl (by decide) hin9 (by decide) rfl (List.mem_of_getElem? (i := 2) rfl) (fun v7 => ?_)
  refine xv_iload_n rfl rfl hY dX9_ticksToMeet_27 rfl ?_
  refine xv_iald hY dX9_ticksToMeet_28 rfl (fun v8 => ?_)
  refine xv_istore (L' := [some (xr a0), some (xi a1), some (xi a2), some (xi v2), some (xi v4), some (xi v6), some (xi v8), none, none, none]) hY dX9_ticksToMeet_29 rfl (by rw [hnL]; decide) rfl rfl ?_
  refine xv_iconst hY dX9_ticksToMeet_31 rfl ?_
  refine xv_istore (L' := [some (xr a0), some (xi a1), some (xi a2), some (xi v2), some (xi v4), some (xi v6), some (xi v8), some (xi (0 : Int)), none, none]) hY dX9_ticksToMeet_32 rfl (by rw [hnL]; decide) rfl rfl ?_
  refine xv_mk (L' := [none, none, none, some (xi v2), some (xi v4), some (xi v6), some (xi v8), some (xi (0 : Int)), none, none]) [false, false, false, true, true, true, true, true, false, false] rfl ?_
  refine xv_loop (σ := Int × Int × Int × Int × Int × xv_M) (fun x9 => [none, none, none, some (xi x9.1), some (xi x9.2.1), some (xi x9.2.2.1), some (xi x9.2.2.2.1), some (xi x9.2.2.2.2.1), none, none]) (fun x9 => x9.2.2.2.2.2) (fun f10 hf10 x9 => ?_) xv_fuel (v2, v4, v6, v8, (0 : Int), M)
  refine xv_iload rfl hY dX9_ticksToMeet_34 rfl ?_
  refine xv_sipush (by decide) hY dX9_ticksToMeet_36 rfl ?_
  refine xv_icmp_gt (t := 99) hY dX9_ticksToMeet_39 (by decide) rfl ?_ ?_
  · refine xv_bipush (by decide) hY dX9_ticksToMeet_99 rfl ?_
    exact xv_ireti hY hfl dX9_ticksToMeet_101 hret (Nat.le_of_ble_eq_true rfl) (Nat.le_of_ble_eq_true rfl)
  · refine xv_iload_n rfl rfl hY dX9_ticksToMeet_42 rfl ?_
    refine xv_iload rfl hY dX9_ticksToMeet_43 rfl ?_
    refine xv_icmp_ne (t := 51) hY dX9_ticksToMeet_45 (by decide) rfl ?_ ?_
    · refine xv_iload_n rfl rfl hY dX9_ticksToMeet_51 rfl ?_
      refine xv_istore (L' := [none, none, none, some (xi x9.1), some (xi x9.2.1), some (xi x9.2.2.1), some (xi x9.2.2.2.1), some (xi x9.2.2.2.2.1), some (xi x9.1), none]) hY dX9_ticksToMeet_52 rfl (by rw [hnL]; decide) rfl rfl ?_
      refine xv_iload rfl hY dX9_ticksToMeet_54 rfl ?_
      refine xv_iload rfl hY dX9_ticksToMeet_56 rfl ?_
      refine xv_callSNI (y := yX11_nextPlace) (ws := wsX11_nextPlace) (rm := rm_X11_nextPlace) (mc := 0) (ms := 0) (n := 2) (av := [xi x9.1, xi x9.2.1]) hY dX9_ticksToMeet_58 rfl rfl (fun q hq => by rw [hfl]; exact S_X11_nextPlace Y.1.2.1 x9.1 x9.2.1 x9.2.2.2.2.2 q hq) ⟨va_cnB 2 hY.2.2.2.2.1 gX9_ticksToMeet_X11_nextPlace_n47 rfl rfl rfl (hY.2.2.2.2.2.1.2.1 _ (List.mem_of_getElem? (i := 16) rfl)) (hY.2.2.2.2.1 _ (by decide +kernel)) (by decide +kernel) ⟨(by rw [hR]; exact Nat.le_of_ble_eq_true rfl), (by rw [hR]; exact Nat.le_of_ble_eq_true rfl)⟩, hY.2.2.2.2.1 _ (by decide +kernel), trivial⟩ rfl (Nat.le_of_ble_eq_true rfl) ⟨(by rw [hR]; exact Nat.le_of_ble_eq_true rfl), (by rw [hR]; exact Nat.le_of_ble_eq_true rfl)⟩ (fun z12 M11 => ?_)
      refine xv_istore_n (L' := [none, none, none, some (xi z12), some (xi x9.2.1), some (xi x9.2.2.1), some (xi x9.2.2.2.1), some (xi x9.2.2.2.2.1), some (xi x9.1), none]) hY dX9_ticksToMeet_61 rfl rfl (by rw [hnL]; decide) rfl rfl ?_
      refine xv_iload rfl hY dX9_ticksToMeet_62 rfl ?_
      refine xv_iload rfl hY dX9_ticksToMeet_64 rfl ?_
      refine xv_callSNI (y := yX11_nextSpeed) (ws := wsX11_nextSpeed) (rm := rm_X11_nextSpeed) (mc := 0) (ms := 0) (n := 2) (av := [xi x9.1, xi x9.2.1]) hY dX9_ticksToMeet_66 rfl rfl (fun q hq => by rw [hfl]; exact S_X11_nextSpeed Y.1.2.1 x9.1 x9.2.1 M11 q hq) ⟨va_cnB 2 hY.2.2.2.2.1 gX9_ticksToMeet_X11_nextSpeed_n51 rfl rfl rfl (hY.2.2.2.2.2.1.2.1 _ (List.mem_of_getElem? (i := 17) rfl)) (hY.2.2.2.2.1 _ (by decide +kernel)) (by decide +kernel) ⟨(by rw [hR]; exact Nat.le_of_ble_eq_true rfl), (by rw [hR]; exact Nat.le_of_ble_eq_true rfl)⟩, hY.2.2.2.2.1 _ (by decide +kernel), trivial⟩ rfl (Nat.le_of_ble_eq_true rfl) ⟨(by rw [hR]; exact Nat.le_of_ble_eq_true rfl), (by rw [hR]; exact Nat.le_of_ble_eq_true rfl)⟩ (fun z14 M13 => ?_)
      refine xv_istore (L' := [none, none, none, some (xi z12), some (xi z14), some (xi x9.2.2.1), some (xi x9.2.2.2.1), some (xi x9.2.2.2.2.1), some (xi x9.1), none]) hY dX9_ticksToMeet_69 rfl (by rw [hnL]; decide) rfl rfl ?_
      refine xv_iload rfl hY dX9_ticksToMeet_71 rfl ?_
      refine xv_istore (L' := [none, none, none, some (xi z12), some (xi z14), some (xi x9.2.2.1), some (xi x9.2.2.2.1), some (xi x9.2.2.2.2.1), some (xi x9.1), some (xi x9.2.2.1)]) hY dX9_ticksToMeet_73 rfl (by rw [hnL]; decide) rfl rfl ?_
      refine xv_iload rfl hY dX9_ticksToMeet_75 rfl ?_
      refine xv_iload rfl hY dX9_ticksToMeet_77 rfl ?_
      refine xv_callSNI (y := yX11_nextPlace) (ws := wsX11_nextPlace) (rm := rm_X11_nextPlace) (mc := 0) (ms := 0) (n := 2) (av := [xi x9.2.2.1, xi x9.2.2.2.1]) hY dX9_ticksToMeet_79 rfl rfl (fun q hq => by rw [hfl]; exact S_X11_nextPlace Y.1.2.1 x9.2.2.1 x9.2.2.2.1 M13 q hq) ⟨va_cnB 2 hY.2.2.2.2.1 gX9_ticksToMeet_X11_nextPlace_n47 rfl rfl rfl (hY.2.2.2.2.2.1.2.1 _ (List.mem_of_getElem? (i := 16) rfl)) (hY.2.2.2.2.1 _ (by decide +kernel)) (by decide +kernel) ⟨(by rw [hR]; exact Nat.le_of_ble_eq_true rfl), (by rw [hR]; exact Nat.le_of_ble_eq_true rfl)⟩, hY.2.2.2.2.1 _ (by decide +kernel), trivial⟩ rfl (Nat.le_of_ble_eq_true rfl) ⟨(by rw [hR]; exact Nat.le_of_ble_eq_true rfl), (by rw [hR]; exact Nat.le_of_ble_eq_true rfl)⟩ (fun z16 M15 => ?_)
      refine xv_istore (L' := [none, none, none, some (xi z12), some (xi z14), some (xi z16), some (xi x9.2.2.2.1), some (xi x9.2.2.2.2.1), some (xi x9.1), some (xi x9.2.2.1)]) hY dX9_ticksToMeet_82 rfl (by rw [hnL]; decide) rfl rfl ?_
      refine xv_iload rfl hY dX9_ticksToMeet_84 rfl ?_
      refine xv_iload rfl hY dX9_ticksToMeet_86 rfl ?_
      refine xv_callSNI (y := yX11_nextSpeed) (ws := wsX11_nextSpeed) (rm := rm_X11_nextSpeed) (mc := 0) (ms := 0) (n := 2) (av := [xi x9.2.2.1, xi x9.2.2.2.1]) hY dX9_ticksToMeet_88 rfl rfl (fun q hq => by rw [hfl]; exact S_X11_nextSpeed Y.1.2.1 x9.2.2.1 x9.2.2.2.1 M15 q hq) ⟨va_cnB 2 hY.2.2.2.2.1 gX9_ticksToMeet_X11_nextSpeed_n51 rfl rfl rfl (hY.2.2.2.2.2.1.2.1 _ (List.mem_of_getElem? (i := 17) rfl)) (hY.2.2.2.2.1 _ (by decide +kernel)) (by decide +kernel) ⟨(by rw [hR]; exact Nat.le_of_ble_eq_true rfl), (by rw [hR]; exact Nat.le_of_ble_eq_true rfl)⟩, hY.2.2.2.2.1 _ (by decide +kernel), trivial⟩ rfl (Nat.le_of_ble_eq_true rfl) ⟨(by rw [hR]; exact Nat.le_of_ble_eq_true rfl), (by rw [hR]; exact Nat.le_of_ble_eq_true rfl)⟩ (fun z18 M17 => ?_)
      refine xv_istore (L' := [none, none, none, some (xi z12), some (xi z14), some (xi z16), some (xi z18), some (xi x9.2.2.2.2.1), some (xi x9.1), some (xi x9.2.2.1)]) hY dX9_ticksToMeet_91 rfl (by rw [hnL]; decide) rfl rfl ?_
      refine xv_iinc (L' := [none, none, none, some (xi z12), some (xi z14), some (xi z16), some (xi z18), some (xi (x9.2.2.2.2.1 + 1)), some (xi x9.1), some (xi x9.2.2.1)]) hY dX9_ticksToMeet_93 rfl (by rw [hnL]; decide) rfl rfl rfl ?_
      refine xv_goto (pc' := 34) hY dX9_ticksToMeet_96 (by decide) ?_
      exact xv_mk (L' := [none, none, none, some (xi z12), some (xi z14), some (xi z16), some (xi z18), some (xi (x9.2.2.2.2.1 + 1)), none, none]) [false, false, false, true, true, true, true, true, false, false] rfl (hf10 (z12, z14, z16, z18, (x9.2.2.2.2.1 + 1), M17))
    · refine xv_iload rfl hY dX9_ticksToMeet_48 rfl ?_
      exact xv_ireti hY hfl dX9_ticksToMeet_50 hret (Nat.le_of_ble_eq_true rfl) (Nat.le_of_ble_eq_true rfl)
set_option maxHeartbeats 4000000 in
set_option maxRecDepth 100000 in
theorem S_X11_init (l : Launch) (a0 : Nat) (M : xv_M) (q : Unit × xv_M) (h : D_X11_init a0 M = some q) : xv_Met l yX11_init wsX11_init rm_X11_init 186 8316 true [xr a0] M (xv_qV true q) := by
  refine xv_enter (cc := cX11_init) (nL := 1) (ret := none) rfl (by decide +kernel) (Nat.le_of_ble_eq_true rfl) h ?_
  intro Y hY0 hl hR hnL hfl hret hnm0
  have hY : xv_ok Y cX11_init wsX11_init RX11 := hY0
  have hin1 : ∀ w ∈ u_ws RX1 TX1 2, w ∈ wsX11_init := fun _ h => List.mem_cons_of_mem _ (List.mem_append_left _ (List.mem_append_left _ (List.mem_append_left _ (List.mem_append_left _ (List.mem_append_left _ (List.mem_append_left _ (List.mem_append_left _ (List.mem_append_left _ (List.mem_append_left _ (List.mem_append_right _ h))))))))))
  have hin2 : ∀ w ∈ u_ws RX2 TX2 3, w ∈ wsX11_init := fun _ h => List.mem_cons_of_mem _ (List.mem_append_left _ (List.mem_append_left _ (List.mem_append_left _ (List.mem_append_left _ (List.mem_append_left _ (List.mem_append_left _ (List.mem_append_left _ (List.mem_append_left _ (List.mem_append_left _ (List.mem_append_left _ (List.mem_append_left _ (List.mem_append_right _ h))))))))))))
  have hin4 : ∀ w ∈ u_ws RX4 TX4 6, w ∈ wsX11_init := fun _ h => List.mem_cons_of_mem _ (List.mem_append_left _ (List.mem_append_left _ (List.mem_append_left _ (List.mem_append_left _ (List.mem_append_left _ (List.mem_append_left _ (List.mem_append_right _ h)))))))
  have hin6 : ∀ w ∈ u_ws RX6 TX6 4, w ∈ wsX11_init := fun _ h => List.mem_cons_of_mem _ (List.mem_append_left _ (List.mem_append_left _ (List.mem_append_left _ (List.mem_append_left _ (List.mem_append_left _ (List.mem_append_left _ (List.mem_append_left _ (List.mem_append_left _ (List.mem_append_right _ h)))))))))
  have hin7 : ∀ w ∈ u_ws RX7 TX7 2, w ∈ wsX11_init := fun _ h => List.mem_cons_of_mem _ (List.mem_append_left _ (List.mem_append_left _ (List.mem_append_left _ (List.mem_append_left _ (List.mem_append_left _ (List.mem_append_left _ (List.mem_append_left _ (List.mem_append_right _ h))))))))
  have hin11 : ∀ w ∈ u_ws RX11 TX11 6, w ∈ wsX11_init := fun _ h => List.mem_cons_of_mem _ (List.mem_append_left _ (List.mem_append_left _ (List.mem_append_left _ (List.mem_append_left _ (List.mem_append_left _ (List.mem_append_left _ (List.mem_append_left _ (List.mem_append_left _ (List.mem_append_left _ (List.mem_append_left _ (List.mem_append_right _ h)))))))))))
  unfold D_X11_init
  refine xv_mk (L' := [some (xr a0)]) [true] rfl ?_
  refine xv_aload_n rfl rfl hY dX11_init_0 rfl ?_
  refine xv_objInit hY dX11_init_1 rfl (by decide +kernel) (by decide +kernel) (by decide +kernel) (by rw [hR]; exact Nat.le_of_ble_eq_true rfl) (by rw [hR]; exact Nat.le_of_ble_eq_true rfl) ?_
  refine xv_aload_n rfl rfl hY dX11_init_4 rfl ?_
  refine xv_newO (ci := 2) hY hfl dX11_init_5 rfl rfl rfl (by decide) hin2 tyX2_ok xv_dv2 (by decide +kernel) (by decide +kernel) (by decide +kernel) (by rw [hR]; exact Nat.le_of_ble_eq_true rfl) (by rw [hR]; exact Nat.le_of_ble_eq_true rfl) (fun r1 M2 => ?_)
  refine xv_dupr hY dX11_init_8 rfl ?_
  refine xv_callINV (ret := none) (y := yX2_init) (ws := wsX2_init) (rm := rm_X2_init) (mc := 36) (ms := 3976) (n := 0) (av := []) hY dX11_init_9 rfl rfl (fun q hq => by rw [hfl]; exact S_X2_init Y.1.2.1 r1 M2 q hq) ⟨va_cnB 0 hY.2.2.2.2.1 gX11_init_X2_init_n11 rfl rfl rfl (hY.2.2.2.2.2.1.2.1 _ (List.mem_of_getElem? (i := 0) rfl)) (hY.2.2.2.2.1 _ (by decide +kernel)) (by decide +kernel) ⟨(by rw [hR]; exact Nat.le_of_ble_eq_true rfl), (by rw [hR]; exact Nat.le_of_ble_eq_true rfl)⟩, rfl, hY.2.2.2.2.1 _ (by decide +kernel)⟩ rfl (Nat.le_of_ble_eq_true rfl) ⟨(by rw [hR]; exact Nat.le_of_ble_eq_true rfl), (by rw [hR]; exact Nat.le_of_ble_eq_true rfl)⟩ (fun _ M3 => ?_)
  refine xv_putP (ci := 11) (j := 0) hY dX11_init_12 rfl rfl rfl (by decide) hin11 (by decide) rfl (List.mem_of_getElem? (i := 7) rfl) tyX11_ok nmX11 (Or.inr ⟨rfl, hnm0, rfl⟩) (Or.inl ⟨_, rfl⟩) (fun M4 => ?_)
  refine xv_aload_n rfl rfl hY dX11_init_15 rfl ?_
  refine xv_newO (ci := 1) hY hfl dX11_init_16 rfl rfl rfl (by decide) hin1 tyX1_ok xv_dv1 (by decide +kernel) (by decide +kernel) (by decide +kernel) (by rw [hR]; exact Nat.le_of_ble_eq_true rfl) (by rw [hR]; exact Nat.le_of_ble_eq_true rfl) (fun r5 M6 => ?_)
  refine xv_dupr hY dX11_init_19 rfl ?_
  refine xv_callIV (ret := none) (y := yX1_init) (ws := wsX1_init) (rm := rm_X1_init) (mc := 113) (ms := 3376) (n := 0) (av := []) hY dX11_init_20 rfl rfl (fun q hq => by rw [hfl]; exact S_X1_init Y.1.2.1 r5 M6 q hq) (cwI 0 hY.2.2.2.2.1 gX11_init_X1_init rfl rfl rfl (hY.2.2.2.2.1 _ (by decide +kernel)) (hY.2.2.2.2.1 _ (by decide +kernel)) (hY.2.2.2.2.1 _ (by decide +kernel)) rfl (by decide +kernel) ⟨(by rw [hR]; exact Nat.le_of_ble_eq_true rfl), (by rw [hR]; exact Nat.le_of_ble_eq_true rfl)⟩) rfl (Nat.le_of_ble_eq_true rfl) ⟨(by rw [hR]; exact Nat.le_of_ble_eq_true rfl), (by rw [hR]; exact Nat.le_of_ble_eq_true rfl)⟩ (fun _ M7 => ?_)
  refine xv_putP (ci := 11) (j := 1) hY dX11_init_23 rfl rfl rfl (by decide) hin11 (by decide) rfl (List.mem_of_getElem? (i := 11) rfl) tyX11_ok nmX11 (Or.inr ⟨rfl, hnm0, rfl⟩) (Or.inl ⟨_, rfl⟩) (fun M8 => ?_)
  refine xv_aload_n rfl rfl hY dX11_init_26 rfl ?_
  refine xv_newO (ci := 6) hY hfl dX11_init_27 rfl rfl rfl (by decide) hin6 tyX6_ok xv_dv6 (by decide +kernel) (by decide +kernel) (by decide +kernel) (by rw [hR]; exact Nat.le_of_ble_eq_true rfl) (by rw [hR]; exact Nat.le_of_ble_eq_true rfl) (fun r9 M10 => ?_)
  refine xv_dupr hY dX11_init_30 rfl ?_
  refine xv_callINV (ret := none) (y := yX6_init) (ws := wsX6_init) (rm := rm_X6_init) (mc := 27) (ms := 839) (n := 0) (av := []) hY dX11_init_31 rfl rfl (fun q hq => by rw [hfl]; exact S_X6_init Y.1.2.1 r9 M10 q hq) ⟨va_cnB 0 hY.2.2.2.2.1 gX11_init_X6_init_n25 rfl rfl rfl (hY.2.2.2.2.2.1.2.1 _ (List.mem_of_getElem? (i := 9) rfl)) (hY.2.2.2.2.1 _ (by decide +kernel)) (by decide +kernel) ⟨(by rw [hR]; exact Nat.le_of_ble_eq_true rfl), (by rw [hR]; exact Nat.le_of_ble_eq_true rfl)⟩, rfl, hY.2.2.2.2.1 _ (by decide +kernel)⟩ rfl (Nat.le_of_ble_eq_true rfl) ⟨(by rw [hR]; exact Nat.le_of_ble_eq_true rfl), (by rw [hR]; exact Nat.le_of_ble_eq_true rfl)⟩ (fun _ M11 => ?_)
  refine xv_putP (ci := 11) (j := 2) hY dX11_init_34 rfl rfl rfl (by decide) hin11 (by decide) rfl (List.mem_of_getElem? (i := 15) rfl) tyX11_ok nmX11 (Or.inr ⟨rfl, hnm0, rfl⟩) (Or.inl ⟨_, rfl⟩) (fun M12 => ?_)
  refine xv_aload_n rfl rfl hY dX11_init_37 rfl ?_
  refine xv_newO (ci := 7) hY hfl dX11_init_38 rfl rfl rfl (by decide) hin7 tyX7_ok xv_dv7 (by decide +kernel) (by decide +kernel) (by decide +kernel) (by rw [hR]; exact Nat.le_of_ble_eq_true rfl) (by rw [hR]; exact Nat.le_of_ble_eq_true rfl) (fun r13 M14 => ?_)
  refine xv_dupr hY dX11_init_41 rfl ?_
  refine xv_callINV (ret := none) (y := yX7_init) (ws := wsX7_init) (rm := rm_X7_init) (mc := 1) (ms := 60) (n := 0) (av := []) hY dX11_init_42 rfl rfl (fun q hq => by rw [hfl]; exact S_X7_init Y.1.2.1 r13 M14 q hq) ⟨va_cnB 0 hY.2.2.2.2.1 gX11_init_X7_init_n32 rfl rfl rfl (hY.2.2.2.2.2.1.2.1 _ (List.mem_of_getElem? (i := 10) rfl)) (hY.2.2.2.2.1 _ (by decide +kernel)) (by decide +kernel) ⟨(by rw [hR]; exact Nat.le_of_ble_eq_true rfl), (by rw [hR]; exact Nat.le_of_ble_eq_true rfl)⟩, rfl, hY.2.2.2.2.1 _ (by decide +kernel)⟩ rfl (Nat.le_of_ble_eq_true rfl) ⟨(by rw [hR]; exact Nat.le_of_ble_eq_true rfl), (by rw [hR]; exact Nat.le_of_ble_eq_true rfl)⟩ (fun _ M15 => ?_)
  refine xv_putP (ci := 11) (j := 3) hY dX11_init_45 rfl rfl rfl (by decide) hin11 (by decide) rfl (List.mem_of_getElem? (i := 19) rfl) tyX11_ok nmX11 (Or.inr ⟨rfl, hnm0, rfl⟩) (Or.inl ⟨_, rfl⟩) (fun M16 => ?_)
  refine xv_aload_n rfl rfl hY dX11_init_48 rfl ?_
  refine xv_newO (ci := 4) hY hfl dX11_init_49 rfl rfl rfl (by decide) hin4 tyX4_ok xv_dv4 (by decide +kernel) (by decide +kernel) (by decide +kernel) (by rw [hR]; exact Nat.le_of_ble_eq_true rfl) (by rw [hR]; exact Nat.le_of_ble_eq_true rfl) (fun r17 M18 => ?_)
  refine xv_dupr hY dX11_init_52 rfl ?_
  refine xv_callINV (ret := none) (y := yX4_init) (ws := wsX4_init) (rm := rm_X4_init) (mc := 4) (ms := 48) (n := 0) (av := []) hY dX11_init_53 rfl rfl (fun q hq => by rw [hfl]; exact S_X4_init Y.1.2.1 r17 M18 q hq) ⟨va_cnB 0 hY.2.2.2.2.1 gX11_init_X4_init_n39 rfl rfl rfl (hY.2.2.2.2.2.1.2.1 _ (List.mem_of_getElem? (i := 11) rfl)) (hY.2.2.2.2.1 _ (by decide +kernel)) (by decide +kernel) ⟨(by rw [hR]; exact Nat.le_of_ble_eq_true rfl), (by rw [hR]; exact Nat.le_of_ble_eq_true rfl)⟩, rfl, hY.2.2.2.2.1 _ (by decide +kernel)⟩ rfl (Nat.le_of_ble_eq_true rfl) ⟨(by rw [hR]; exact Nat.le_of_ble_eq_true rfl), (by rw [hR]; exact Nat.le_of_ble_eq_true rfl)⟩ (fun _ M19 => ?_)
  refine xv_putP (ci := 11) (j := 4) hY dX11_init_56 rfl rfl rfl (by decide) hin11 (by decide) rfl (List.mem_of_getElem? (i := 23) rfl) tyX11_ok nmX11 (Or.inr ⟨rfl, hnm0, rfl⟩) (Or.inl ⟨_, rfl⟩) (fun M20 => ?_)
  exact xv_vretu hY hfl dX11_init_59 hret (Nat.le_of_ble_eq_true rfl) (Nat.le_of_ble_eq_true rfl)
set_option maxHeartbeats 4000000 in
set_option maxRecDepth 100000 in
theorem S_X11_add (l : Launch) (a0 : Nat) (a1 : Int) (a2 : Int) (M : xv_M) (q : Int × xv_M) (h : D_X11_add a0 a1 a2 M = some q) : xv_Met l yX11_add wsX11_add rm_X11_add 0 0 false [xr a0, xi a1, xi a2] M (xv_qI false q) := by
  refine xv_enter (cc := cX11_add) (nL := 3) (ret := (some .int)) rfl (by decide +kernel) (Nat.le_of_ble_eq_true rfl) h ?_
  intro Y hY0 hl hR hnL hfl hret hnm0
  have hY : xv_ok Y cX11_add wsX11_add RX11 := hY0
  have hin2 : ∀ w ∈ u_ws RX2 TX2 3, w ∈ wsX11_add := fun _ h => List.mem_cons_of_mem _ (List.mem_append_left _ (List.mem_append_left _ (List.mem_append_left _ (List.mem_append_left _ (List.mem_append_left _ (List.mem_append_left _ (List.mem_append_left _ (List.mem_append_left _ (List.mem_append_right _ h)))))))))
  have hin5 : ∀ w ∈ u_ws RX5 TX5 8, w ∈ wsX11_add := fun _ h => List.mem_cons_of_mem _ (List.mem_append_left _ (List.mem_append_left _ (List.mem_append_left _ (List.mem_append_left _ (List.mem_append_left _ (List.mem_append_left _ (List.mem_append_right _ h)))))))
  have hin6 : ∀ w ∈ u_ws RX6 TX6 4, w ∈ wsX11_add := fun _ h => List.mem_cons_of_mem _ (List.mem_append_left _ (List.mem_append_left _ (List.mem_append_left _ (List.mem_append_left _ (List.mem_append_left _ (List.mem_append_left _ (List.mem_append_left _ (List.mem_append_right _ h))))))))
  have hin11 : ∀ w ∈ u_ws RX11 TX11 6, w ∈ wsX11_add := fun _ h => List.mem_cons_of_mem _ (List.mem_append_left _ (List.mem_append_left _ (List.mem_append_left _ (List.mem_append_left _ (List.mem_append_left _ (List.mem_append_left _ (List.mem_append_left _ (List.mem_append_left _ (List.mem_append_left _ (List.mem_append_right _ h))))))))))
  unfold D_X11_add
  refine xv_mk (L' := [some (xr a0), some (xi a1), some (xi a2)]) [true, true, true] rfl ?_
  refine xv_iload_n rfl rfl hY dX11_add_0 rfl ?_
  refine xv_callSI (y := yX11_isPlace) (ws := wsX11_isPlace) (rm := rm_X11_isPlace) (mc := 0) (ms := 0) (n := 1) (av := [xi a1]) hY dX11_add_1 rfl rfl (fun q hq => by rw [hfl]; exact S_X11_isPlace Y.1.2.1 a1 M q hq) (va_cwS 1 hY.2.2.2.2.1 gX11_add_X11_isPlace rfl rfl rfl (by decide +kernel) ⟨(by rw [hR]; exact Nat.le_of_ble_eq_true rfl), (by rw [hR]; exact Nat.le_of_ble_eq_true rfl)⟩) rfl (Nat.le_of_ble_eq_true rfl) ⟨(by rw [hR]; exact Nat.le_of_ble_eq_true rfl), (by rw [hR]; exact Nat.le_of_ble_eq_true rfl)⟩ (fun z2 M1 => ?_)
  refine xv_if_eq (t := 19) hY dX11_add_4 (by decide) rfl ?_ ?_
  · refine xv_bipush (by decide) hY dX11_add_19 rfl ?_
    exact xv_ireti hY hfl dX11_add_21 hret (Nat.le_of_ble_eq_true rfl) (Nat.le_of_ble_eq_true rfl)
  · refine xv_iload_n rfl rfl hY dX11_add_7 rfl ?_
    refine xv_callSI (y := yX11_isPlace) (ws := wsX11_isPlace) (rm := rm_X11_isPlace) (mc := 0) (ms := 0) (n := 1) (av := [xi a2]) hY dX11_add_8 rfl rfl (fun q hq => by rw [hfl]; exact S_X11_isPlace Y.1.2.1 a2 M1 q hq) (va_cwS 1 hY.2.2.2.2.1 gX11_add_X11_isPlace rfl rfl rfl (by decide +kernel) ⟨(by rw [hR]; exact Nat.le_of_ble_eq_true rfl), (by rw [hR]; exact Nat.le_of_ble_eq_true rfl)⟩) rfl (Nat.le_of_ble_eq_true rfl) ⟨(by rw [hR]; exact Nat.le_of_ble_eq_true rfl), (by rw [hR]; exact Nat.le_of_ble_eq_true rfl)⟩ (fun z4 M3 => ?_)
    refine xv_if_eq (t := 19) hY dX11_add_11 (by decide) rfl ?_ ?_
    · refine xv_bipush (by decide) hY dX11_add_19 rfl ?_
      exact xv_ireti hY hfl dX11_add_21 hret (Nat.le_of_ble_eq_true rfl) (Nat.le_of_ble_eq_true rfl)
    · refine xv_iload_n rfl rfl hY dX11_add_14 rfl ?_
      refine xv_iload_n rfl rfl hY dX11_add_15 rfl ?_
      refine xv_icmp_ge (t := 22) hY dX11_add_16 (by decide) rfl ?_ ?_
      · refine xv_aload_n rfl rfl hY dX11_add_22 rfl ?_
        refine xv_getP (ci := 11) (j := 0) hY dX11_add_23 rfl rfl rfl (by decide) hin11 (by decide) rfl (List.mem_of_getElem? (i := 1) rfl) (fun v5 => ?_)
        refine xv_getP (ci := 2) (j := 0) hY dX11_add_26 rfl rfl rfl (by decide) hin2 (by decide) rfl (List.mem_of_getElem? (i := 2) rfl) (fun v6 => ?_)
        refine xv_getP (ci := 6) (j := 1) hY dX11_add_29 rfl rfl rfl (by decide) hin6 (by decide) rfl (List.mem_of_getElem? (i := 3) rfl) (fun v7 => ?_)
        refine xv_getI (ci := 5) (j := 0) hY dX11_add_32 rfl rfl rfl (by decide) hin5 (by decide) rfl (List.mem_of_getElem? (i := 4) rfl) (fun v8 => ?_)
        refine xv_bipush (by decide) hY dX11_add_35 rfl ?_
        refine xv_icmp_lt (t := 43) hY dX11_add_37 (by decide) rfl ?_ ?_
        · refine xv_aload_n rfl rfl hY dX11_add_43 rfl ?_
          refine xv_getP (ci := 11) (j := 1) hY dX11_add_44 rfl rfl rfl (by decide) hin11 (by decide) rfl (List.mem_of_getElem? (i := 5) rfl) (fun v9 => ?_)
          refine xv_aload_n rfl rfl hY dX11_add_47 rfl ?_
          refine xv_getP (ci := 11) (j := 0) hY dX11_add_48 rfl rfl rfl (by decide) hin11 (by decide) rfl (List.mem_of_getElem? (i := 1) rfl) (fun v10 => ?_)
          refine xv_getP (ci := 2) (j := 0) hY dX11_add_51 rfl rfl rfl (by decide) hin2 (by decide) rfl (List.mem_of_getElem? (i := 2) rfl) (fun v11 => ?_)
          refine xv_callVV (ci := 1) (y := yX1_record) (ws := wsX1_record) (rm := rm_X1_record) (mc := 0) (ms := 0) (n := 1) (av := [xr v11]) hY dX11_add_54 rfl rfl rfl (by decide) (fun q hq => by rw [hfl]; exact S_X1_record Y.1.2.1 v9 v11 M3 q hq) (cwV 1 hY.2.2.2.2.1 gX11_add_X1_record rfl rfl rfl (by decide +kernel) ⟨(by rw [hR]; exact Nat.le_of_ble_eq_true rfl), (by rw [hR]; exact Nat.le_of_ble_eq_true rfl)⟩) rfl (Nat.le_of_ble_eq_true rfl) ⟨(by rw [hR]; exact Nat.le_of_ble_eq_true rfl), (by rw [hR]; exact Nat.le_of_ble_eq_true rfl)⟩ (fun _ M12 => ?_)
          refine xv_aload_n rfl rfl hY dX11_add_57 rfl ?_
          refine xv_getP (ci := 11) (j := 0) hY dX11_add_58 rfl rfl rfl (by decide) hin11 (by decide) rfl (List.mem_of_getElem? (i := 1) rfl) (fun v13 => ?_)
          refine xv_iload_n rfl rfl hY dX11_add_61 rfl ?_
          refine xv_iload_n rfl rfl hY dX11_add_62 rfl ?_
          refine xv_iconst hY dX11_add_63 rfl ?_
          refine xv_iconst hY dX11_add_64 rfl ?_
          refine xv_callVI (ci := 2) (y := yX2_addSpan) (ws := wsX2_addSpan) (rm := rm_X2_addSpan) (mc := 0) (ms := 0) (n := 4) (av := [xi a1, xi a2, xi (1 : Int), xi (1 : Int)]) hY dX11_add_65 rfl rfl rfl (by decide) (fun q hq => by rw [hfl]; exact S_X2_addSpan Y.1.2.1 v13 a1 a2 (1 : Int) (1 : Int) M12 q hq) (cwV 4 hY.2.2.2.2.1 gX11_add_X2_addSpan rfl rfl rfl (by decide +kernel) ⟨(by rw [hR]; exact Nat.le_of_ble_eq_true rfl), (by rw [hR]; exact Nat.le_of_ble_eq_true rfl)⟩) rfl (Nat.le_of_ble_eq_true rfl) ⟨(by rw [hR]; exact Nat.le_of_ble_eq_true rfl), (by rw [hR]; exact Nat.le_of_ble_eq_true rfl)⟩ (fun z15 M14 => ?_)
          exact xv_ireti hY hfl dX11_add_68 hret (Nat.le_of_ble_eq_true rfl) (Nat.le_of_ble_eq_true rfl)
        · refine xv_bipush (by decide) hY dX11_add_40 rfl ?_
          exact xv_ireti hY hfl dX11_add_42 hret (Nat.le_of_ble_eq_true rfl) (Nat.le_of_ble_eq_true rfl)
      · refine xv_bipush (by decide) hY dX11_add_19 rfl ?_
        exact xv_ireti hY hfl dX11_add_21 hret (Nat.le_of_ble_eq_true rfl) (Nat.le_of_ble_eq_true rfl)
