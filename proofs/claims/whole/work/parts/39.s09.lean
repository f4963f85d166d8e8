set_option maxHeartbeats 4000000 in
set_option maxRecDepth 100000 in
theorem S_X12_houses (l : Launch) (a0 : Nat) (a1 : Int) (M : xv_M) (q : Int × xv_M) (h : D_X12_houses a0 a1 M = some q) : xv_Met l yX12_houses wsX12_houses rm_X12_houses 0 0 false [xr a0, xi a1] M (xv_qI false q) := by
  refine xv_enter (cc := cX12_houses) (nL := 4) (ret := (some .int)) rfl (by decide +kernel) (Nat.le_of_ble_eq_true rfl) h ?_
  intro Y hY0 hl hR hnL hfl hret hnm0
  have hY : xv_ok Y cX12_houses wsX12_houses RX12 := hY0
  have hin12 : ∀ w ∈ u_ws RX12 TX12 18, w ∈ wsX12_houses := fun _ h => List.mem_cons_of_mem _ (List.mem_append_right _ h)
  unfold D_X12_houses
  refine xv_mk (L' := [some (xr a0), some (xi a1), none, none]) [true, true, true, true] rfl ?_
  refine xv_iconst hY dX12_houses_0 rfl ?_
  refine xv_istore_n (L' := [some (xr a0), some (xi a1), some (xi (0 : Int)), none]) hY dX12_houses_1 rfl rfl (by rw [hnL]; decide) rfl rfl ?_
  refine xv_iconst hY dX12_houses_2 rfl ?_
  refine xv_istore_n (L' := [some (xr a0), some (xi a1), some (xi (0 : Int)), some (xi (0 : Int))]) hY dX12_houses_3 rfl rfl (by rw [hnL]; decide) rfl rfl ?_
  refine xv_mk (L' := [some (xr a0), some (xi a1), some (xi (0 : Int)), some (xi (0 : Int))]) [true, true, true, true] rfl ?_
  refine xv_loop (σ := Int × Int × xv_M) (fun x1 => [some (xr a0), some (xi a1), some (xi x1.1), some (xi x1.2.1)]) (fun x1 => x1.2.2) (fun f2 hf2 x1 => ?_) xv_fuel ((0 : Int), (0 : Int), M)
  refine xv_iload_n rfl rfl hY dX12_houses_4 rfl ?_
  refine xv_aload_n rfl rfl hY dX12_houses_5 rfl ?_
  refine xv_getP (ci := 12) (j := 0) hY dX12_houses_6 rfl rfl rfl (by decide) hin12 (by decide) rfl (List.mem_of_getElem? (i := 1) rfl) (fun v3 => ?_)
  refine xv_iconst hY dX12_houses_9 rfl ?_
  refine xv_iald hY dX12_houses_10 rfl (fun v4 => ?_)
  refine xv_icmp_ge (t := 37) hY dX12_houses_11 (by decide) rfl ?_ ?_
  · refine xv_iload_n rfl rfl hY dX12_houses_37 rfl ?_
    exact xv_ireti hY hfl dX12_houses_38 hret (Nat.le_of_ble_eq_true rfl) (Nat.le_of_ble_eq_true rfl)
  · refine xv_iload_n rfl rfl hY dX12_houses_14 rfl ?_
    refine xv_aload_n rfl rfl hY dX12_houses_15 rfl ?_
    refine xv_iload_n rfl rfl hY dX12_houses_16 rfl ?_
    refine xv_iload_n rfl rfl hY dX12_houses_17 rfl ?_
    refine xv_callVI (ci := 12) (y := yX12_isInside) (ws := wsX12_isInside) (rm := rm_X12_isInside) (mc := 0) (ms := 0) (n := 2) (av := [xi a1, xi x1.2.1]) hY dX12_houses_18 rfl rfl rfl (by decide) (fun q hq => by rw [hfl]; exact S_X12_isInside Y.1.2.1 a0 a1 x1.2.1 x1.2.2 q hq) (cwV 2 hY.2.2.2.2.1 gX12_houses_X12_isInside rfl rfl rfl (by decide +kernel) ⟨(by rw [hR]; exact Nat.le_of_ble_eq_true rfl), (by rw [hR]; exact Nat.le_of_ble_eq_true rfl)⟩) rfl (Nat.le_of_ble_eq_true rfl) ⟨(by rw [hR]; exact Nat.le_of_ble_eq_true rfl), (by rw [hR]; exact Nat.le_of_ble_eq_true rfl)⟩ (fun z6 M5 => ?_)
    refine xv_join (α := Int × Int) 29 (fun x7 => [some (xr a0), some (xi a1), none, some (xi x1.2.1)]) (fun x7 => [xi x7.2, xi x7.1]) (fun x7 => M5) (fun x7 => ?_) (fun j8 hj8 => ?_)
    · refine xv_iadd hY dX12_houses_29 rfl ?_
      refine xv_istore_n (L' := [some (xr a0), some (xi a1), some (xi (x7.1 + x7.2)), some (xi x1.2.1)]) hY dX12_houses_30 rfl rfl (by rw [hnL]; decide) rfl rfl ?_
      refine xv_iinc (L' := [some (xr a0), some (xi a1), some (xi (x7.1 + x7.2)), some (xi (x1.2.1 + 1))]) hY dX12_houses_31 rfl (by rw [hnL]; decide) rfl rfl rfl ?_
      refine xv_goto (pc' := 4) hY dX12_houses_34 (by decide) ?_
      exact xv_mk (L' := [some (xr a0), some (xi a1), some (xi (x7.1 + x7.2)), some (xi (x1.2.1 + 1))]) [true, true, true, true] rfl (hf2 ((x7.1 + x7.2), (x1.2.1 + 1), M5))
    · refine xv_if_eq (t := 28) hY dX12_houses_21 (by decide) rfl ?_ ?_
      · refine xv_iconst hY dX12_houses_28 rfl ?_
        exact xv_mk (L' := [some (xr a0), some (xi a1), none, some (xi x1.2.1)]) [true, true, false, true] rfl (hj8 (x1.1, (0 : Int)))
      · refine xv_iconst hY dX12_houses_24 rfl ?_
        refine xv_goto (pc' := 29) hY dX12_houses_25 (by decide) ?_
        exact xv_mk (L' := [some (xr a0), some (xi a1), none, some (xi x1.2.1)]) [true, true, false, true] rfl (hj8 (x1.1, (1 : Int)))
set_option maxHeartbeats 4000000 in
set_option maxRecDepth 100000 in
theorem S_X12_longest (l : Launch) (a0 : Nat) (a1 : Int) (M : xv_M) (q : Int × xv_M) (h : D_X12_longest a0 a1 M = some q) : xv_Met l yX12_longest wsX12_longest rm_X12_longest 0 0 false [xr a0, xi a1] M (xv_qI false q) := by
  refine xv_enter (cc := cX12_longest) (nL := 4) (ret := (some .int)) rfl (by decide +kernel) (Nat.le_of_ble_eq_true rfl) h ?_
  intro Y hY0 hl hR hnL hfl hret hnm0
  have hY : xv_ok Y cX12_longest wsX12_longest RX12 := hY0
  have hin12 : ∀ w ∈ u_ws RX12 TX12 18, w ∈ wsX12_longest := fun _ h => List.mem_cons_of_mem _ (List.mem_append_right _ h)
  unfold D_X12_longest
  refine xv_mk (L' := [some (xr a0), some (xi a1), none, none]) [true, true, true, true] rfl ?_
  refine xv_bipush (by decide) hY dX12_longest_0 rfl ?_
  refine xv_istore_n (L' := [some (xr a0), some (xi a1), some (xi (-5 : Int)), none]) hY dX12_longest_2 rfl rfl (by rw [hnL]; decide) rfl rfl ?_
  refine xv_iconst hY dX12_longest_3 rfl ?_
  refine xv_istore_n (L' := [some (xr a0), some (xi a1), some (xi (-5 : Int)), some (xi (0 : Int))]) hY dX12_longest_4 rfl rfl (by rw [hnL]; decide) rfl rfl ?_
  refine xv_mk (L' := [some (xr a0), some (xi a1), some (xi (-5 : Int)), some (xi (0 : Int))]) [true, true, true, true] rfl ?_
  refine xv_loop (σ := Int × Int × xv_M) (fun x1 => [some (xr a0), some (xi a1), some (xi x1.1), some (xi x1.2.1)]) (fun x1 => x1.2.2) (fun f2 hf2 x1 => ?_) xv_fuel ((-5 : Int), (0 : Int), M)
  refine xv_iload_n rfl rfl hY dX12_longest_5 rfl ?_
  refine xv_aload_n rfl rfl hY dX12_longest_6 rfl ?_
  refine xv_getP (ci := 12) (j := 0) hY dX12_longest_7 rfl rfl rfl (by decide) hin12 (by decide) rfl (List.mem_of_getElem? (i := 1) rfl) (fun v3 => ?_)
  refine xv_iconst hY dX12_longest_10 rfl ?_
  refine xv_iald hY dX12_longest_11 rfl (fun v4 => ?_)
  refine xv_icmp_ge (t := 71) hY dX12_longest_12 (by decide) rfl ?_ ?_
  · refine xv_iload_n rfl rfl hY dX12_longest_71 rfl ?_
    exact xv_ireti hY hfl dX12_longest_72 hret (Nat.le_of_ble_eq_true rfl) (Nat.le_of_ble_eq_true rfl)
  · refine xv_aload_n rfl rfl hY dX12_longest_15 rfl ?_
    refine xv_iload_n rfl rfl hY dX12_longest_16 rfl ?_
    refine xv_iload_n rfl rfl hY dX12_longest_17 rfl ?_
    refine xv_callVI (ci := 12) (y := yX12_isInside) (ws := wsX12_isInside) (rm := rm_X12_isInside) (mc := 0) (ms := 0) (n := 2) (av := [xi a1, xi x1.2.1]) hY dX12_longest_18 rfl rfl rfl (by decide) (fun q hq => by rw [hfl]; exact S_X12_isInside Y.1.2.1 a0 a1 x1.2.1 x1.2.2 q hq) (cwV 2 hY.2.2.2.2.1 gX12_longest_X12_isInside rfl rfl rfl (by decide +kernel) ⟨(by rw [hR]; exact Nat.le_of_ble_eq_true rfl), (by rw [hR]; exact Nat.le_of_ble_eq_true rfl)⟩) rfl (Nat.le_of_ble_eq_true rfl) ⟨(by rw [hR]; exact Nat.le_of_ble_eq_true rfl), (by rw [hR]; exact Nat.le_of_ble_eq_true rfl)⟩ (fun z6 M5 => ?_)
    refine xv_join (α := Int) 65 (fun x7 => [some (xr a0), some (xi a1), some (xi x7), some (xi x1.2.1)]) (fun x7 => []) (fun x7 => M5) (fun x7 => ?_) (fun j8 hj8 => ?_)
    · refine xv_iinc (L' := [some (xr a0), some (xi a1), some (xi x7), some (xi (x1.2.1 + 1))]) hY dX12_longest_65 rfl (by rw [hnL]; decide) rfl rfl rfl ?_
      refine xv_goto (pc' := 5) hY dX12_longest_68 (by decide) ?_
      exact xv_mk (L' := [some (xr a0), some (xi a1), some (xi x7), some (xi (x1.2.1 + 1))]) [true, true, true, true] rfl (hf2 (x7, (x1.2.1 + 1), M5))
    · refine xv_if_eq (t := 65) hY dX12_longest_21 (by decide) rfl ?_ ?_
      · exact xv_mk (L' := [some (xr a0), some (xi a1), some (xi x1.1), some (xi x1.2.1)]) [true, true, true, true] rfl (hj8 x1.1)
      · refine xv_iload_n rfl rfl hY dX12_longest_24 rfl ?_
        refine xv_bipush (by decide) hY dX12_longest_25 rfl ?_
        refine xv_join (α := Unit) 63 (fun x9 => [some (xr a0), some (xi a1), none, some (xi x1.2.1)]) (fun x9 => []) (fun x9 => M5) (fun x9 => ?_) (fun j10 hj10 => ?_)
        · refine xv_iload_n rfl rfl hY dX12_longest_63 rfl ?_
          refine xv_istore_n (L' := [some (xr a0), some (xi a1), some (xi x1.2.1), some (xi x1.2.1)]) hY dX12_longest_64 rfl rfl (by rw [hnL]; decide) rfl rfl ?_
          exact xv_mk (L' := [some (xr a0), some (xi a1), some (xi x1.2.1), some (xi x1.2.1)]) [true, true, true, true] rfl (hj8 x1.2.1)
        · refine xv_icmp_eq (t := 63) hY dX12_longest_27 (by decide) rfl ?_ ?_
          · exact xv_mk (L' := [some (xr a0), some (xi a1), none, some (xi x1.2.1)]) [true, true, false, true] rfl (hj10 ())
          · refine xv_aload_n rfl rfl hY dX12_longest_30 rfl ?_
            refine xv_getP (ci := 12) (j := 0) hY dX12_longest_31 rfl rfl rfl (by decide) hin12 (by decide) rfl (List.mem_of_getElem? (i := 1) rfl) (fun v11 => ?_)
            refine xv_sipush (by decide) hY dX12_longest_34 rfl ?_
            refine xv_bipush (by decide) hY dX12_longest_37 rfl ?_
            refine xv_iload_n rfl rfl hY dX12_longest_39 rfl ?_
            refine xv_imul hY dX12_longest_40 rfl ?_
            refine xv_iadd hY dX12_longest_41 rfl ?_
            refine xv_iload_n rfl rfl hY dX12_longest_42 rfl ?_
            refine xv_iadd hY dX12_longest_43 rfl ?_
            refine xv_iald hY dX12_longest_44 rfl (fun v12 => ?_)
            refine xv_aload_n rfl rfl hY dX12_longest_45 rfl ?_
            refine xv_getP (ci := 12) (j := 0) hY dX12_longest_46 rfl rfl rfl (by decide) hin12 (by decide) rfl (List.mem_of_getElem? (i := 1) rfl) (fun v13 => ?_)
            refine xv_sipush (by decide) hY dX12_longest_49 rfl ?_
            refine xv_bipush (by decide) hY dX12_longest_52 rfl ?_
            refine xv_iload_n rfl rfl hY dX12_longest_54 rfl ?_
            refine xv_imul hY dX12_longest_55 rfl ?_
            refine xv_iadd hY dX12_longest_56 rfl ?_
            refine xv_iload_n rfl rfl hY dX12_longest_57 rfl ?_
            refine xv_iadd hY dX12_longest_58 rfl ?_
            refine xv_iald hY dX12_longest_59 rfl (fun v14 => ?_)
            refine xv_icmp_ge (t := 65) hY dX12_longest_60 (by decide) rfl ?_ ?_
            · exact xv_mk (L' := [some (xr a0), some (xi a1), some (xi x1.1), some (xi x1.2.1)]) [true, true, true, true] rfl (hj8 x1.1)
            · exact xv_mk (L' := [some (xr a0), some (xi a1), none, some (xi x1.2.1)]) [true, true, false, true] rfl (hj10 ())
set_option maxHeartbeats 4000000 in
set_option maxRecDepth 100000 in
theorem S_X12_walker (l : Launch) (a0 : Nat) (a1 : Int) (a2 : Int) (M : xv_M) (q : Int × xv_M) (h : D_X12_walker a0 a1 a2 M = some q) : xv_Met l yX12_walker wsX12_walker rm_X12_walker 0 0 false [xr a0, xi a1, xi a2] M (xv_qI false q) := by
  refine xv_enter (cc := cX12_walker) (nL := 4) (ret := (some .int)) rfl (by decide +kernel) (Nat.le_of_ble_eq_true rfl) h ?_
  intro Y hY0 hl hR hnL hfl hret hnm0
  have hY : xv_ok Y cX12_walker wsX12_walker RX12 := hY0
  have hin12 : ∀ w ∈ u_ws RX12 TX12 18, w ∈ wsX12_walker := fun _ h => List.mem_cons_of_mem _ (List.mem_append_right _ h)
  unfold D_X12_walker
  refine xv_mk (L' := [some (xr a0), some (xi a1), some (xi a2), none]) [true, true, true, true] rfl ?_
  refine xv_aload_n rfl rfl hY dX12_walker_0 rfl ?_
  refine xv_iload_n rfl rfl hY dX12_walker_1 rfl ?_
  refine xv_callVI (ci := 12) (y := yX12_noWalker) (ws := wsX12_noWalker) (rm := rm_X12_noWalker) (mc := 0) (ms := 0) (n := 1) (av := [xi a1]) hY dX12_walker_2 rfl rfl rfl (by decide) (fun q hq => by rw [hfl]; exact S_X12_noWalker Y.1.2.1 a0 a1 M q hq) (cwV 1 hY.2.2.2.2.1 gX12_walker_X12_noWalker rfl rfl rfl (by decide +kernel) ⟨(by rw [hR]; exact Nat.le_of_ble_eq_true rfl), (by rw [hR]; exact Nat.le_of_ble_eq_true rfl)⟩) rfl (Nat.le_of_ble_eq_true rfl) ⟨(by rw [hR]; exact Nat.le_of_ble_eq_true rfl), (by rw [hR]; exact Nat.le_of_ble_eq_true rfl)⟩ (fun z2 M1 => ?_)
  refine xv_if_eq (t := 10) hY dX12_walker_5 (by decide) rfl ?_ ?_
  · refine xv_aload_n rfl rfl hY dX12_walker_10 rfl ?_
    refine xv_iload_n rfl rfl hY dX12_walker_11 rfl ?_
    refine xv_callVI (ci := 12) (y := yX12_longest) (ws := wsX12_longest) (rm := rm_X12_longest) (mc := 0) (ms := 0) (n := 1) (av := [xi a1]) hY dX12_walker_12 rfl rfl rfl (by decide) (fun q hq => by rw [hfl]; exact S_X12_longest Y.1.2.1 a0 a1 M1 q hq) (cwV 1 hY.2.2.2.2.1 gX12_walker_X12_longest rfl rfl rfl (by decide +kernel) ⟨(by rw [hR]; exact Nat.le_of_ble_eq_true rfl), (by rw [hR]; exact Nat.le_of_ble_eq_true rfl)⟩) rfl (Nat.le_of_ble_eq_true rfl) ⟨(by rw [hR]; exact Nat.le_of_ble_eq_true rfl), (by rw [hR]; exact Nat.le_of_ble_eq_true rfl)⟩ (fun z4 M3 => ?_)
    refine xv_istore_n (L' := [some (xr a0), some (xi a1), some (xi a2), some (xi z4)]) hY dX12_walker_15 rfl rfl (by rw [hnL]; decide) rfl rfl ?_
    refine xv_iload_n rfl rfl hY dX12_walker_16 rfl ?_
    refine xv_byg (fun hz => ?_)
    refine xv_byif (fun h0 => ?_) (fun h0 => ?_)
    · refine xv_swIn (off := 51) (t := 68) hY dX12_walker_17 (xv_inb_in hz) (by omega) (by omega) (by rw [h0]; rfl) (by decide) ?_
      refine xv_aload_n rfl rfl hY dX12_walker_68 rfl ?_
      refine xv_iload_n rfl rfl hY dX12_walker_69 rfl ?_
      refine xv_iconst hY dX12_walker_70 rfl ?_
      refine xv_callVI (ci := 12) (y := yX12_its) (ws := wsX12_its) (rm := rm_X12_its) (mc := 0) (ms := 0) (n := 2) (av := [xi a1, xi (0 : Int)]) hY dX12_walker_71 rfl rfl rfl (by decide) (fun q hq => by rw [hfl]; exact S_X12_its Y.1.2.1 a0 a1 (0 : Int) M3 q hq) (cwV 2 hY.2.2.2.2.1 gX12_walker_X12_its rfl rfl rfl (by decide +kernel) ⟨(by rw [hR]; exact Nat.le_of_ble_eq_true rfl), (by rw [hR]; exact Nat.le_of_ble_eq_true rfl)⟩) rfl (Nat.le_of_ble_eq_true rfl) ⟨(by rw [hR]; exact Nat.le_of_ble_eq_true rfl), (by rw [hR]; exact Nat.le_of_ble_eq_true rfl)⟩ (fun z22 M21 => ?_)
      exact xv_ireti hY hfl dX12_walker_74 hret (Nat.le_of_ble_eq_true rfl) (Nat.le_of_ble_eq_true rfl)
    · refine xv_byif (fun h1 => ?_) (fun h1 => ?_)
      · refine xv_swIn (off := 58) (t := 75) hY dX12_walker_17 (xv_inb_in hz) (by omega) (by omega) (by rw [h1]; rfl) (by decide) ?_
        refine xv_sipush (by decide) hY dX12_walker_75 rfl ?_
        refine xv_aload_n rfl rfl hY dX12_walker_78 rfl ?_
        refine xv_iload_n rfl rfl hY dX12_walker_79 rfl ?_
        refine xv_iconst hY dX12_walker_80 rfl ?_
        refine xv_callVI (ci := 12) (y := yX12_its) (ws := wsX12_its) (rm := rm_X12_its) (mc := 0) (ms := 0) (n := 2) (av := [xi a1, xi (1 : Int)]) hY dX12_walker_81 rfl rfl rfl (by decide) (fun q hq => by rw [hfl]; exact S_X12_its Y.1.2.1 a0 a1 (1 : Int) M3 q hq) (cwV 2 hY.2.2.2.2.1 gX12_walker_X12_its rfl rfl rfl (by decide +kernel) ⟨(by rw [hR]; exact Nat.le_of_ble_eq_true rfl), (by rw [hR]; exact Nat.le_of_ble_eq_true rfl)⟩) rfl (Nat.le_of_ble_eq_true rfl) ⟨(by rw [hR]; exact Nat.le_of_ble_eq_true rfl), (by rw [hR]; exact Nat.le_of_ble_eq_true rfl)⟩ (fun z20 M19 => ?_)
        refine xv_iadd hY dX12_walker_84 rfl ?_
        exact xv_ireti hY hfl dX12_walker_85 hret (Nat.le_of_ble_eq_true rfl) (Nat.le_of_ble_eq_true rfl)
      · refine xv_byif (fun h2 => ?_) (fun h2 => ?_)
        · refine xv_swIn (off := 69) (t := 86) hY dX12_walker_17 (xv_inb_in hz) (by omega) (by omega) (by rw [h2]; rfl) (by decide) ?_
          refine xv_aload_n rfl rfl hY dX12_walker_86 rfl ?_
          refine xv_iload_n rfl rfl hY dX12_walker_87 rfl ?_
          refine xv_callVI (ci := 12) (y := yX12_houses) (ws := wsX12_houses) (rm := rm_X12_houses) (mc := 0) (ms := 0) (n := 1) (av := [xi a1]) hY dX12_walker_88 rfl rfl rfl (by decide) (fun q hq => by rw [hfl]; exact S_X12_houses Y.1.2.1 a0 a1 M3 q hq) (cwV 1 hY.2.2.2.2.1 gX12_walker_X12_houses rfl rfl rfl (by decide +kernel) ⟨(by rw [hR]; exact Nat.le_of_ble_eq_true rfl), (by rw [hR]; exact Nat.le_of_ble_eq_true rfl)⟩) rfl (Nat.le_of_ble_eq_true rfl) ⟨(by rw [hR]; exact Nat.le_of_ble_eq_true rfl), (by rw [hR]; exact Nat.le_of_ble_eq_true rfl)⟩ (fun z18 M17 => ?_)
          exact xv_ireti hY hfl dX12_walker_91 hret (Nat.le_of_ble_eq_true rfl) (Nat.le_of_ble_eq_true rfl)
        · refine xv_byif (fun h3 => ?_) (fun h3 => ?_)
          · refine xv_swIn (off := 75) (t := 92) hY dX12_walker_17 (xv_inb_in hz) (by omega) (by omega) (by rw [h3]; rfl) (by decide) ?_
            refine xv_aload_n rfl rfl hY dX12_walker_92 rfl ?_
            refine xv_iload_n rfl rfl hY dX12_walker_93 rfl ?_
            refine xv_iconst hY dX12_walker_94 rfl ?_
            refine xv_callVI (ci := 12) (y := yX12_its) (ws := wsX12_its) (rm := rm_X12_its) (mc := 0) (ms := 0) (n := 2) (av := [xi a1, xi (2 : Int)]) hY dX12_walker_95 rfl rfl rfl (by decide) (fun q hq => by rw [hfl]; exact S_X12_its Y.1.2.1 a0 a1 (2 : Int) M3 q hq) (cwV 2 hY.2.2.2.2.1 gX12_walker_X12_its rfl rfl rfl (by decide +kernel) ⟨(by rw [hR]; exact Nat.le_of_ble_eq_true rfl), (by rw [hR]; exact Nat.le_of_ble_eq_true rfl)⟩) rfl (Nat.le_of_ble_eq_true rfl) ⟨(by rw [hR]; exact Nat.le_of_ble_eq_true rfl), (by rw [hR]; exact Nat.le_of_ble_eq_true rfl)⟩ (fun z16 M15 => ?_)
            exact xv_ireti hY hfl dX12_walker_98 hret (Nat.le_of_ble_eq_true rfl) (Nat.le_of_ble_eq_true rfl)
          · refine xv_byif (fun h4 => ?_) (fun h4 => ?_)
            · refine xv_swIn (off := 82) (t := 99) hY dX12_walker_17 (xv_inb_in hz) (by omega) (by omega) (by rw [h4]; rfl) (by decide) ?_
              refine xv_aload_n rfl rfl hY dX12_walker_99 rfl ?_
              refine xv_iload_n rfl rfl hY dX12_walker_100 rfl ?_
              refine xv_iconst hY dX12_walker_101 rfl ?_
              refine xv_callVI (ci := 12) (y := yX12_its) (ws := wsX12_its) (rm := rm_X12_its) (mc := 0) (ms := 0) (n := 2) (av := [xi a1, xi (3 : Int)]) hY dX12_walker_102 rfl rfl rfl (by decide) (fun q hq => by rw [hfl]; exact S_X12_its Y.1.2.1 a0 a1 (3 : Int) M3 q hq) (cwV 2 hY.2.2.2.2.1 gX12_walker_X12_its rfl rfl rfl (by decide +kernel) ⟨(by rw [hR]; exact Nat.le_of_ble_eq_true rfl), (by rw [hR]; exact Nat.le_of_ble_eq_true rfl)⟩) rfl (Nat.le_of_ble_eq_true rfl) ⟨(by rw [hR]; exact Nat.le_of_ble_eq_true rfl), (by rw [hR]; exact Nat.le_of_ble_eq_true rfl)⟩ (fun z14 M13 => ?_)
              exact xv_ireti hY hfl dX12_walker_105 hret (Nat.le_of_ble_eq_true rfl) (Nat.le_of_ble_eq_true rfl)
            · refine xv_byif (fun h5 => ?_) (fun h5 => ?_)
              · refine xv_swIn (off := 89) (t := 106) hY dX12_walker_17 (xv_inb_in hz) (by omega) (by omega) (by rw [h5]; rfl) (by decide) ?_
                refine xv_iload_n rfl rfl hY dX12_walker_106 rfl ?_
                refine xv_bipush (by decide) hY dX12_walker_107 rfl ?_
                refine xv_icmp_ne (t := 117) hY dX12_walker_109 (by decide) rfl ?_ ?_
                · refine xv_aload_n rfl rfl hY dX12_walker_117 rfl ?_
                  refine xv_getP (ci := 12) (j := 0) hY dX12_walker_118 rfl rfl rfl (by decide) hin12 (by decide) rfl (List.mem_of_getElem? (i := 1) rfl) (fun v9 => ?_)
                  refine xv_iconst hY dX12_walker_121 rfl ?_
                  refine xv_iald hY dX12_walker_122 rfl (fun v10 => ?_)
                  refine xv_iconst hY dX12_walker_123 rfl ?_
                  refine xv_iadd hY dX12_walker_124 rfl ?_
                  refine xv_aload_n rfl rfl hY dX12_walker_125 rfl ?_
                  refine xv_getP (ci := 12) (j := 0) hY dX12_walker_126 rfl rfl rfl (by decide) hin12 (by decide) rfl (List.mem_of_getElem? (i := 1) rfl) (fun v11 => ?_)
                  refine xv_sipush (by decide) hY dX12_walker_129 rfl ?_
                  refine xv_bipush (by decide) hY dX12_walker_132 rfl ?_
                  refine xv_iload_n rfl rfl hY dX12_walker_134 rfl ?_
                  refine xv_imul hY dX12_walker_135 rfl ?_
                  refine xv_iadd hY dX12_walker_136 rfl ?_
                  refine xv_iload_n rfl rfl hY dX12_walker_137 rfl ?_
                  refine xv_iadd hY dX12_walker_138 rfl ?_
                  refine xv_iald hY dX12_walker_139 rfl (fun v12 => ?_)
                  refine xv_isub hY dX12_walker_140 rfl ?_
                  exact xv_ireti hY hfl dX12_walker_141 hret (Nat.le_of_ble_eq_true rfl) (Nat.le_of_ble_eq_true rfl)
                · refine xv_bipush (by decide) hY dX12_walker_112 rfl ?_
                  refine xv_goto (pc' := 141) hY dX12_walker_114 (by decide) ?_
                  exact xv_ireti hY hfl dX12_walker_141 hret (Nat.le_of_ble_eq_true rfl) (Nat.le_of_ble_eq_true rfl)
              · refine xv_byif (fun h6 => ?_) (fun h6 => ?_)
                · refine xv_swIn (off := 125) (t := 142) hY dX12_walker_17 (xv_inb_in hz) (by omega) (by omega) (by rw [h6]; rfl) (by decide) ?_
                  refine xv_iload_n rfl rfl hY dX12_walker_142 rfl ?_
                  exact xv_ireti hY hfl dX12_walker_143 hret (Nat.le_of_ble_eq_true rfl) (Nat.le_of_ble_eq_true rfl)
                · refine xv_byif (fun h7 => ?_) (fun h7 => ?_)
                  · refine xv_swIn (off := 127) (t := 144) hY dX12_walker_17 (xv_inb_in hz) (by omega) (by omega) (by rw [h7]; rfl) (by decide) ?_
                    refine xv_aload_n rfl rfl hY dX12_walker_144 rfl ?_
                    refine xv_iload_n rfl rfl hY dX12_walker_145 rfl ?_
                    refine xv_iconst hY dX12_walker_146 rfl ?_
                    refine xv_callVI (ci := 12) (y := yX12_its) (ws := wsX12_its) (rm := rm_X12_its) (mc := 0) (ms := 0) (n := 2) (av := [xi a1, xi (4 : Int)]) hY dX12_walker_147 rfl rfl rfl (by decide) (fun q hq => by rw [hfl]; exact S_X12_its Y.1.2.1 a0 a1 (4 : Int) M3 q hq) (cwV 2 hY.2.2.2.2.1 gX12_walker_X12_its rfl rfl rfl (by decide +kernel) ⟨(by rw [hR]; exact Nat.le_of_ble_eq_true rfl), (by rw [hR]; exact Nat.le_of_ble_eq_true rfl)⟩) rfl (Nat.le_of_ble_eq_true rfl) ⟨(by rw [hR]; exact Nat.le_of_ble_eq_true rfl), (by rw [hR]; exact Nat.le_of_ble_eq_true rfl)⟩ (fun z8 M7 => ?_)
                    exact xv_ireti hY hfl dX12_walker_150 hret (Nat.le_of_ble_eq_true rfl) (Nat.le_of_ble_eq_true rfl)
                  · refine xv_byif (fun h8 => ?_) (fun h8 => ?_)
                    · refine xv_swIn (off := 134) (t := 151) hY dX12_walker_17 (xv_inb_in hz) (by omega) (by omega) (by rw [h8]; rfl) (by decide) ?_
                      refine xv_aload_n rfl rfl hY dX12_walker_151 rfl ?_
                      refine xv_iload_n rfl rfl hY dX12_walker_152 rfl ?_
                      refine xv_iconst hY dX12_walker_153 rfl ?_
                      refine xv_callVI (ci := 12) (y := yX12_its) (ws := wsX12_its) (rm := rm_X12_its) (mc := 0) (ms := 0) (n := 2) (av := [xi a1, xi (5 : Int)]) hY dX12_walker_154 rfl rfl rfl (by decide) (fun q hq => by rw [hfl]; exact S_X12_its Y.1.2.1 a0 a1 (5 : Int) M3 q hq) (cwV 2 hY.2.2.2.2.1 gX12_walker_X12_its rfl rfl rfl (by decide +kernel) ⟨(by rw [hR]; exact Nat.le_of_ble_eq_true rfl), (by rw [hR]; exact Nat.le_of_ble_eq_true rfl)⟩) rfl (Nat.le_of_ble_eq_true rfl) ⟨(by rw [hR]; exact Nat.le_of_ble_eq_true rfl), (by rw [hR]; exact Nat.le_of_ble_eq_true rfl)⟩ (fun z6 M5 => ?_)
                      exact xv_ireti hY hfl dX12_walker_157 hret (Nat.le_of_ble_eq_true rfl) (Nat.le_of_ble_eq_true rfl)
                    · refine xv_swOut hY dX12_walker_17 (xv_inb_in hz) (by omega) (t := 158) (by decide) ?_
                      refine xv_bipush (by decide) hY dX12_walker_158 rfl ?_
                      exact xv_ireti hY hfl dX12_walker_160 hret (Nat.le_of_ble_eq_true rfl) (Nat.le_of_ble_eq_true rfl)
  · refine xv_iconst hY dX12_walker_8 rfl ?_
    exact xv_ireti hY hfl dX12_walker_9 hret (Nat.le_of_ble_eq_true rfl) (Nat.le_of_ble_eq_true rfl)
set_option maxHeartbeats 4000000 in
set_option maxRecDepth 100000 in
theorem S_X12_inside (l : Launch) (a0 : Nat) (a1 : Int) (a2 : Int) (M : xv_M) (q : Int × xv_M) (h : D_X12_inside a0 a1 a2 M = some q) : xv_Met l yX12_inside wsX12_inside rm_X12_inside 0 0 false [xr a0, xi a1, xi a2] M (xv_qI false q) := by
  refine xv_enter (cc := cX12_inside) (nL := 5) (ret := (some .int)) rfl (by decide +kernel) (Nat.le_of_ble_eq_true rfl) h ?_
  intro Y hY0 hl hR hnL hfl hret hnm0
  have hY : xv_ok Y cX12_inside wsX12_inside RX12 := hY0
  have hin12 : ∀ w ∈ u_ws RX12 TX12 18, w ∈ wsX12_inside := fun _ h => List.mem_cons_of_mem _ (List.mem_append_right _ h)
  unfold D_X12_inside
  refine xv_mk (L' := [some (xr a0), some (xi a1), some (xi a2), none, none]) [true, true, true, true, true] rfl ?_
  refine xv_aload_n rfl rfl hY dX12_inside_0 rfl ?_
  refine xv_iload_n rfl rfl hY dX12_inside_1 rfl ?_
  refine xv_callVI (ci := 12) (y := yX12_noWalker) (ws := wsX12_noWalker) (rm := rm_X12_noWalker) (mc := 0) (ms := 0) (n := 1) (av := [xi a1]) hY dX12_inside_2 rfl rfl rfl (by decide) (fun q hq => by rw [hfl]; exact S_X12_noWalker Y.1.2.1 a0 a1 M q hq) (cwV 1 hY.2.2.2.2.1 gX12_inside_X12_noWalker rfl rfl rfl (by decide +kernel) ⟨(by rw [hR]; exact Nat.le_of_ble_eq_true rfl), (by rw [hR]; exact Nat.le_of_ble_eq_true rfl)⟩) rfl (Nat.le_of_ble_eq_true rfl) ⟨(by rw [hR]; exact Nat.le_of_ble_eq_true rfl), (by rw [hR]; exact Nat.le_of_ble_eq_true rfl)⟩ (fun z2 M1 => ?_)
  refine xv_if_eq (t := 10) hY dX12_inside_5 (by decide) rfl ?_ ?_
  · refine xv_iload_n rfl rfl hY dX12_inside_10 rfl ?_
    refine xv_if_ge (t := 17) hY dX12_inside_11 (by decide) rfl ?_ ?_
    · refine xv_iload_n rfl rfl hY dX12_inside_17 rfl ?_
      refine xv_istore_n (L' := [some (xr a0), some (xi a1), some (xi a2), some (xi a2), none]) hY dX12_inside_18 rfl rfl (by rw [hnL]; decide) rfl rfl ?_
      refine xv_iconst hY dX12_inside_19 rfl ?_
      refine xv_istore (L' := [some (xr a0), some (xi a1), some (xi a2), some (xi a2), some (xi (0 : Int))]) hY dX12_inside_20 rfl (by rw [hnL]; decide) rfl rfl ?_
      refine xv_mk (L' := [some (xr a0), some (xi a1), none, some (xi a2), some (xi (0 : Int))]) [true, true, false, true, true] rfl ?_
      refine xv_loop (σ := Int × Int × xv_M) (fun x3 => [some (xr a0), some (xi a1), none, some (xi x3.1), some (xi x3.2.1)]) (fun x3 => x3.2.2) (fun f4 hf4 x3 => ?_) xv_fuel (a2, (0 : Int), M1)
      refine xv_iload rfl hY dX12_inside_22 rfl ?_
      refine xv_aload_n rfl rfl hY dX12_inside_24 rfl ?_
      refine xv_getP (ci := 12) (j := 0) hY dX12_inside_25 rfl rfl rfl (by decide) hin12 (by decide) rfl (List.mem_of_getElem? (i := 1) rfl) (fun v5 => ?_)
      refine xv_iconst hY dX12_inside_28 rfl ?_
      refine xv_iald hY dX12_inside_29 rfl (fun v6 => ?_)
      refine xv_icmp_ge (t := 59) hY dX12_inside_30 (by decide) rfl ?_ ?_
      · refine xv_bipush (by decide) hY dX12_inside_59 rfl ?_
        exact xv_ireti hY hfl dX12_inside_61 hret (Nat.le_of_ble_eq_true rfl) (Nat.le_of_ble_eq_true rfl)
      · refine xv_aload_n rfl rfl hY dX12_inside_33 rfl ?_
        refine xv_iload_n rfl rfl hY dX12_inside_34 rfl ?_
        refine xv_iload rfl hY dX12_inside_35 rfl ?_
        refine xv_callVI (ci := 12) (y := yX12_isInside) (ws := wsX12_isInside) (rm := rm_X12_isInside) (mc := 0) (ms := 0) (n := 2) (av := [xi a1, xi x3.2.1]) hY dX12_inside_37 rfl rfl rfl (by decide) (fun q hq => by rw [hfl]; exact S_X12_isInside Y.1.2.1 a0 a1 x3.2.1 x3.2.2 q hq) (cwV 2 hY.2.2.2.2.1 gX12_inside_X12_isInside rfl rfl rfl (by decide +kernel) ⟨(by rw [hR]; exact Nat.le_of_ble_eq_true rfl), (by rw [hR]; exact Nat.le_of_ble_eq_true rfl)⟩) rfl (Nat.le_of_ble_eq_true rfl) ⟨(by rw [hR]; exact Nat.le_of_ble_eq_true rfl), (by rw [hR]; exact Nat.le_of_ble_eq_true rfl)⟩ (fun z8 M7 => ?_)
        refine xv_join (α := Int) 53 (fun x9 => [some (xr a0), some (xi a1), none, some (xi x9), some (xi x3.2.1)]) (fun x9 => []) (fun x9 => M7) (fun x9 => ?_) (fun j10 hj10 => ?_)
        · refine xv_iinc (L' := [some (xr a0), some (xi a1), none, some (xi x9), some (xi (x3.2.1 + 1))]) hY dX12_inside_53 rfl (by rw [hnL]; decide) rfl rfl rfl ?_
          refine xv_goto (pc' := 22) hY dX12_inside_56 (by decide) ?_
          exact xv_mk (L' := [some (xr a0), some (xi a1), none, some (xi x9), some (xi (x3.2.1 + 1))]) [true, true, false, true, true] rfl (hf4 (x9, (x3.2.1 + 1), M7))
        · refine xv_if_eq (t := 53) hY dX12_inside_40 (by decide) rfl ?_ ?_
          · exact xv_mk (L' := [some (xr a0), some (xi a1), none, some (xi x3.1), some (xi x3.2.1)]) [true, true, false, true, true] rfl (hj10 x3.1)
          · refine xv_iload_n rfl rfl hY dX12_inside_43 rfl ?_
            refine xv_if_ne (t := 50) hY dX12_inside_44 (by decide) rfl ?_ ?_
            · refine xv_iinc (L' := [some (xr a0), some (xi a1), none, some (xi (x3.1 + (-1))), some (xi x3.2.1)]) hY dX12_inside_50 rfl (by rw [hnL]; decide) rfl rfl rfl ?_
              exact xv_mk (L' := [some (xr a0), some (xi a1), none, some (xi (x3.1 + (-1))), some (xi x3.2.1)]) [true, true, false, true, true] rfl (hj10 (x3.1 + (-1)))
            · refine xv_iload rfl hY dX12_inside_47 rfl ?_
              exact xv_ireti hY hfl dX12_inside_49 hret (Nat.le_of_ble_eq_true rfl) (Nat.le_of_ble_eq_true rfl)
    · refine xv_bipush (by decide) hY dX12_inside_14 rfl ?_
      exact xv_ireti hY hfl dX12_inside_16 hret (Nat.le_of_ble_eq_true rfl) (Nat.le_of_ble_eq_true rfl)
  · refine xv_iconst hY dX12_inside_8 rfl ?_
    exact xv_ireti hY hfl dX12_inside_9 hret (Nat.le_of_ble_eq_true rfl) (Nat.le_of_ble_eq_true rfl)
set_option maxHeartbeats 4000000 in
set_option maxRecDepth 100000 in
theorem S_X12_covering (l : Launch) (a0 : Nat) (a1 : Int) (M : xv_M) (q : Int × xv_M) (h : D_X12_covering a0 a1 M = some q) : xv_Met l yX12_covering wsX12_covering rm_X12_covering 0 0 false [xr a0, xi a1] M (xv_qI false q) := by
  refine xv_enter (cc := cX12_covering) (nL := 4) (ret := (some .int)) rfl (by decide +kernel) (Nat.le_of_ble_eq_true rfl) h ?_
  intro Y hY0 hl hR hnL hfl hret hnm0
  have hY : xv_ok Y cX12_covering wsX12_covering RX12 := hY0
  have hin12 : ∀ w ∈ u_ws RX12 TX12 18, w ∈ wsX12_covering := fun _ h => List.mem_cons_of_mem _ (List.mem_append_right _ h)
  unfold D_X12_covering
  refine xv_mk (L' := [some (xr a0), some (xi a1), none, none]) [true, true, true, true] rfl ?_
  refine xv_iconst hY dX12_covering_0 rfl ?_
  refine xv_istore_n (L' := [some (xr a0), some (xi a1), some (xi (0 : Int)), none]) hY dX12_covering_1 rfl rfl (by rw [hnL]; decide) rfl rfl ?_
  refine xv_iconst hY dX12_covering_2 rfl ?_
  refine xv_istore_n (L' := [some (xr a0), some (xi a1), some (xi (0 : Int)), some (xi (0 : Int))]) hY dX12_covering_3 rfl rfl (by rw [hnL]; decide) rfl rfl ?_
  refine xv_mk (L' := [some (xr a0), some (xi a1), some (xi (0 : Int)), some (xi (0 : Int))]) [true, true, true, true] rfl ?_
  refine xv_loop (σ := Int × Int × xv_M) (fun x1 => [some (xr a0), some (xi a1), some (xi x1.1), some (xi x1.2.1)]) (fun x1 => x1.2.2) (fun f2 hf2 x1 => ?_) xv_fuel ((0 : Int), (0 : Int), M)
  refine xv_iload_n rfl rfl hY dX12_covering_4 rfl ?_
  refine xv_aload_n rfl rfl hY dX12_covering_5 rfl ?_
  refine xv_getP (ci := 12) (j := 0) hY dX12_covering_6 rfl rfl rfl (by decide) hin12 (by decide) rfl (List.mem_of_getElem? (i := 1) rfl) (fun v3 => ?_)
  refine xv_iconst hY dX12_covering_9 rfl ?_
  refine xv_iald hY dX12_covering_10 rfl (fun v4 => ?_)
  refine xv_icmp_ge (t := 37) hY dX12_covering_11 (by decide) rfl ?_ ?_
  · refine xv_iload_n rfl rfl hY dX12_covering_37 rfl ?_
    exact xv_ireti hY hfl dX12_covering_38 hret (Nat.le_of_ble_eq_true rfl) (Nat.le_of_ble_eq_true rfl)
  · refine xv_iload_n rfl rfl hY dX12_covering_14 rfl ?_
    refine xv_aload_n rfl rfl hY dX12_covering_15 rfl ?_
    refine xv_iload_n rfl rfl hY dX12_covering_16 rfl ?_
    refine xv_iload_n rfl rfl hY dX12_covering_17 rfl ?_
    refine xv_callVI (ci := 12) (y := yX12_covers) (ws := wsX12_covers) (rm := rm_X12_covers) (mc := 0) (ms := 0) (n := 2) (av := [xi x1.2.1, xi a1]) hY dX12_covering_18 rfl rfl rfl (by decide) (fun q hq => by rw [hfl]; exact S_X12_covers Y.1.2.1 a0 x1.2.1 a1 x1.2.2 q hq) (cwV 2 hY.2.2.2.2.1 gX12_covering_X12_covers rfl rfl rfl (by decide +kernel) ⟨(by rw [hR]; exact Nat.le_of_ble_eq_true rfl), (by rw [hR]; exact Nat.le_of_ble_eq_true rfl)⟩) rfl (Nat.le_of_ble_eq_true rfl) ⟨(by rw [hR]; exact Nat.le_of_ble_eq_true rfl), (by rw [hR]; exact Nat.le_of_ble_eq_true rfl)⟩ (fun z6 M5 => ?_)
    refine xv_join (α := Int × Int) 29 (fun x7 => [some (xr a0), some (xi a1), none, some (xi x1.2.1)]) (fun x7 => [xi x7.2, xi x7.1]) (fun x7 => M5) (fun x7 => ?_) (fun j8 hj8 => ?_)
    · refine xv_iadd hY dX12_covering_29 rfl ?_
      refine xv_istore_n (L' := [some (xr a0), some (xi a1), some (xi (x7.1 + x7.2)), some (xi x1.2.1)]) hY dX12_covering_30 rfl rfl (by rw [hnL]; decide) rfl rfl ?_
      refine xv_iinc (L' := [some (xr a0), some (xi a1), some (xi (x7.1 + x7.2)), some (xi (x1.2.1 + 1))]) hY dX12_covering_31 rfl (by rw [hnL]; decide) rfl rfl rfl ?_
      refine xv_goto (pc' := 4) hY dX12_covering_34 (by decide) ?_
      exact xv_mk (L' := [some (xr a0), some (xi a1), some (xi (x7.1 + x7.2)), some (xi (x1.2.1 + 1))]) [true, true, true, true] rfl (hf2 ((x7.1 + x7.2), (x1.2.1 + 1), M5))
    · refine xv_if_eq (t := 28) hY dX12_covering_21 (by decide) rfl ?_ ?_
      · refine xv_iconst hY dX12_covering_28 rfl ?_
        exact xv_mk (L' := [some (xr a0), some (xi a1), none, some (xi x1.2.1)]) [true, true, false, true] rfl (hj8 (x1.1, (0 : Int)))
      · refine xv_iconst hY dX12_covering_24 rfl ?_
        refine xv_goto (pc' := 29) hY dX12_covering_25 (by decide) ?_
        exact xv_mk (L' := [some (xr a0), some (xi a1), none, some (xi x1.2.1)]) [true, true, false, true] rfl (hj8 (x1.1, (1 : Int)))
set_option maxHeartbeats 4000000 in
set_option maxRecDepth 100000 in
theorem S_X12_chosen (l : Launch) (a0 : Nat) (a1 : Int) (a2 : Int) (M : xv_M) (q : Int × xv_M) (h : D_X12_chosen a0 a1 a2 M = some q) : xv_Met l yX12_chosen wsX12_chosen rm_X12_chosen 0 0 false [xr a0, xi a1, xi a2] M (xv_qI false q) := by
  refine xv_enter (cc := cX12_chosen) (nL := 5) (ret := (some .int)) rfl (by decide +kernel) (Nat.le_of_ble_eq_true rfl) h ?_
  intro Y hY0 hl hR hnL hfl hret hnm0
  have hY : xv_ok Y cX12_chosen wsX12_chosen RX12 := hY0
  have hin12 : ∀ w ∈ u_ws RX12 TX12 18, w ∈ wsX12_chosen := fun _ h => List.mem_cons_of_mem _ (List.mem_append_right _ h)
  unfold D_X12_chosen
  refine xv_mk (L' := [some (xr a0), some (xi a1), some (xi a2), none, none]) [true, true, true, true, true] rfl ?_
  refine xv_bipush (by decide) hY dX12_chosen_0 rfl ?_
  refine xv_istore_n (L' := [some (xr a0), some (xi a1), some (xi a2), some (xi (-5 : Int)), none]) hY dX12_chosen_2 rfl rfl (by rw [hnL]; decide) rfl rfl ?_
  refine xv_iconst hY dX12_chosen_3 rfl ?_
  refine xv_istore (L' := [some (xr a0), some (xi a1), some (xi a2), some (xi (-5 : Int)), some (xi (0 : Int))]) hY dX12_chosen_4 rfl (by rw [hnL]; decide) rfl rfl ?_
  refine xv_mk (L' := [some (xr a0), some (xi a1), some (xi a2), some (xi (-5 : Int)), some (xi (0 : Int))]) [true, true, true, true, true] rfl ?_
  refine xv_loop (σ := Int × Int × xv_M) (fun x1 => [some (xr a0), some (xi a1), some (xi a2), some (xi x1.1), some (xi x1.2.1)]) (fun x1 => x1.2.2) (fun f2 hf2 x1 => ?_) xv_fuel ((-5 : Int), (0 : Int), M)
  refine xv_iload rfl hY dX12_chosen_6 rfl ?_
  refine xv_aload_n rfl rfl hY dX12_chosen_8 rfl ?_
  refine xv_getP (ci := 12) (j := 0) hY dX12_chosen_9 rfl rfl rfl (by decide) hin12 (by decide) rfl (List.mem_of_getElem? (i := 1) rfl) (fun v3 => ?_)
  refine xv_iconst hY dX12_chosen_12 rfl ?_
  refine xv_iald hY dX12_chosen_13 rfl (fun v4 => ?_)
  refine xv_icmp_ge (t := 77) hY dX12_chosen_14 (by decide) rfl ?_ ?_
  · refine xv_iload_n rfl rfl hY dX12_chosen_77 rfl ?_
    exact xv_ireti hY hfl dX12_chosen_78 hret (Nat.le_of_ble_eq_true rfl) (Nat.le_of_ble_eq_true rfl)
  · refine xv_aload_n rfl rfl hY dX12_chosen_17 rfl ?_
    refine xv_iload rfl hY dX12_chosen_18 rfl ?_
    refine xv_iload_n rfl rfl hY dX12_chosen_20 rfl ?_
    refine xv_callVI (ci := 12) (y := yX12_covers) (ws := wsX12_covers) (rm := rm_X12_covers) (mc := 0) (ms := 0) (n := 2) (av := [xi x1.2.1, xi a1]) hY dX12_chosen_21 rfl rfl rfl (by decide) (fun q hq => by rw [hfl]; exact S_X12_covers Y.1.2.1 a0 x1.2.1 a1 x1.2.2 q hq) (cwV 2 hY.2.2.2.2.1 gX12_chosen_X12_covers rfl rfl rfl (by decide +kernel) ⟨(by rw [hR]; exact Nat.le_of_ble_eq_true rfl), (by rw [hR]; exact Nat.le_of_ble_eq_true rfl)⟩) rfl (Nat.le_of_ble_eq_true rfl) ⟨(by rw [hR]; exact Nat.le_of_ble_eq_true rfl), (by rw [hR]; exact Nat.le_of_ble_eq_true rfl)⟩ (fun z6 M5 => ?_)
    refine xv_join (α := Int × xv_M) 71 (fun x7 => [some (xr a0), some (xi a1), some (xi a2), some (xi x7.1), some (xi x1.2.1)]) (fun x7 => []) (fun x7 => x7.2) (fun x7 => ?_) (fun j8 hj8 => ?_)
    · refine xv_iinc (L' := [some (xr a0), some (xi a1), some (xi a2), some (xi x7.1), some (xi (x1.2.1 + 1))]) hY dX12_chosen_71 rfl (by rw [hnL]; decide) rfl rfl rfl ?_
      refine xv_goto (pc' := 6) hY dX12_chosen_74 (by decide) ?_
      exact xv_mk (L' := [some (xr a0), some (xi a1), some (xi a2), some (xi x7.1), some (xi (x1.2.1 + 1))]) [true, true, true, true, true] rfl (hf2 (x7.1, (x1.2.1 + 1), x7.2))
    · refine xv_if_eq (t := 71) hY dX12_chosen_24 (by decide) rfl ?_ ?_
      · exact xv_mk (L' := [some (xr a0), some (xi a1), some (xi a2), some (xi x1.1), some (xi x1.2.1)]) [true, true, true, true, true] rfl (hj8 (x1.1, M5))
      · refine xv_iload_n rfl rfl hY dX12_chosen_27 rfl ?_
        refine xv_bipush (by decide) hY dX12_chosen_28 rfl ?_
        refine xv_join (α := xv_M) 68 (fun x9 => [some (xr a0), some (xi a1), some (xi a2), none, some (xi x1.2.1)]) (fun x9 => []) (fun x9 => x9) (fun x9 => ?_) (fun j10 hj10 => ?_)
        · refine xv_iload rfl hY dX12_chosen_68 rfl ?_
          refine xv_istore_n (L' := [some (xr a0), some (xi a1), some (xi a2), some (xi x1.2.1), some (xi x1.2.1)]) hY dX12_chosen_70 rfl rfl (by rw [hnL]; decide) rfl rfl ?_
          exact xv_mk (L' := [some (xr a0), some (xi a1), some (xi a2), some (xi x1.2.1), some (xi x1.2.1)]) [true, true, true, true, true] rfl (hj8 (x1.2.1, x9))
        · refine xv_icmp_eq (t := 68) hY dX12_chosen_30 (by decide) rfl ?_ ?_
          · exact xv_mk (L' := [some (xr a0), some (xi a1), some (xi a2), none, some (xi x1.2.1)]) [true, true, true, false, true] rfl (hj10 M5)
          · refine xv_iload_n rfl rfl hY dX12_chosen_33 rfl ?_
            refine xv_if_eq (t := 71) hY dX12_chosen_34 (by decide) rfl ?_ ?_
            · exact xv_mk (L' := [some (xr a0), some (xi a1), some (xi a2), some (xi x1.1), some (xi x1.2.1)]) [true, true, true, true, true] rfl (hj8 (x1.1, M5))
            · refine xv_aload_n rfl rfl hY dX12_chosen_37 rfl ?_
              refine xv_iload rfl hY dX12_chosen_38 rfl ?_
              refine xv_iconst hY dX12_chosen_40 rfl ?_
              refine xv_callVI (ci := 12) (y := yX12_of) (ws := wsX12_of) (rm := rm_X12_of) (mc := 0) (ms := 0) (n := 2) (av := [xi x1.2.1, xi (3 : Int)]) hY dX12_chosen_41 rfl rfl rfl (by decide) (fun q hq => by rw [hfl]; exact S_X12_of Y.1.2.1 a0 x1.2.1 (3 : Int) M5 q hq) (cwV 2 hY.2.2.2.2.1 gX12_chosen_X12_of rfl rfl rfl (by decide +kernel) ⟨(by rw [hR]; exact Nat.le_of_ble_eq_true rfl), (by rw [hR]; exact Nat.le_of_ble_eq_true rfl)⟩) rfl (Nat.le_of_ble_eq_true rfl) ⟨(by rw [hR]; exact Nat.le_of_ble_eq_true rfl), (by rw [hR]; exact Nat.le_of_ble_eq_true rfl)⟩ (fun z12 M11 => ?_)
              refine xv_aload_n rfl rfl hY dX12_chosen_44 rfl ?_
              refine xv_iload rfl hY dX12_chosen_45 rfl ?_
              refine xv_iconst hY dX12_chosen_47 rfl ?_
              refine xv_callVI (ci := 12) (y := yX12_of) (ws := wsX12_of) (rm := rm_X12_of) (mc := 0) (ms := 0) (n := 2) (av := [xi x1.2.1, xi (2 : Int)]) hY dX12_chosen_48 rfl rfl rfl (by decide) (fun q hq => by rw [hfl]; exact S_X12_of Y.1.2.1 a0 x1.2.1 (2 : Int) M11 q hq) (cwV 2 hY.2.2.2.2.1 gX12_chosen_X12_of rfl rfl rfl (by decide +kernel) ⟨(by rw [hR]; exact Nat.le_of_ble_eq_true rfl), (by rw [hR]; exact Nat.le_of_ble_eq_true rfl)⟩) rfl (Nat.le_of_ble_eq_true rfl) ⟨(by rw [hR]; exact Nat.le_of_ble_eq_true rfl), (by rw [hR]; exact Nat.le_of_ble_eq_true rfl)⟩ (fun z14 M13 => ?_)
              refine xv_isub hY dX12_chosen_51 rfl ?_
              refine xv_aload_n rfl rfl hY dX12_chosen_52 rfl ?_
              refine xv_iload_n rfl rfl hY dX12_chosen_53 rfl ?_
              refine xv_iconst hY dX12_chosen_54 rfl ?_
              refine xv_callVI (ci := 12) (y := yX12_of) (ws := wsX12_of) (rm := rm_X12_of) (mc := 0) (ms := 0) (n := 2) (av := [xi x1.1, xi (3 : Int)]) hY dX12_chosen_55 rfl rfl rfl (by decide) (fun q hq => by rw [hfl]; exact S_X12_of Y.1.2.1 a0 x1.1 (3 : Int) M13 q hq) (cwV 2 hY.2.2.2.2.1 gX12_chosen_X12_of rfl rfl rfl (by decide +kernel) ⟨(by rw [hR]; exact Nat.le_of_ble_eq_true rfl), (by rw [hR]; exact Nat.le_of_ble_eq_true rfl)⟩) rfl (Nat.le_of_ble_eq_true rfl) ⟨(by rw [hR]; exact Nat.le_of_ble_eq_true rfl), (by rw [hR]; exact Nat.le_of_ble_eq_true rfl)⟩ (fun z16 M15 => ?_)
              refine xv_aload_n rfl rfl hY dX12_chosen_58 rfl ?_
              refine xv_iload_n rfl rfl hY dX12_chosen_59 rfl ?_
              refine xv_iconst hY dX12_chosen_60 rfl ?_
              refine xv_callVI (ci := 12) (y := yX12_of) (ws := wsX12_of) (rm := rm_X12_of) (mc := 0) (ms := 0) (n := 2) (av := [xi x1.1, xi (2 : Int)]) hY dX12_chosen_61 rfl rfl rfl (by decide) (fun q hq => by rw [hfl]; exact S_X12_of Y.1.2.1 a0 x1.1 (2 : Int) M15 q hq) (cwV 2 hY.2.2.2.2.1 gX12_chosen_X12_of rfl rfl rfl (by decide +kernel) ⟨(by rw [hR]; exact Nat.le_of_ble_eq_true rfl), (by rw [hR]; exact Nat.le_of_ble_eq_true rfl)⟩) rfl (Nat.le_of_ble_eq_true rfl) ⟨(by rw [hR]; exact Nat.le_of_ble_eq_true rfl), (by rw [hR]; exact Nat.le_of_ble_eq_true rfl)⟩ (fun z18 M17 => ?_)
              refine xv_isub hY dX12_chosen_64 rfl ?_
              refine xv_icmp_ge (t := 71) hY dX12_chosen_65 (by decide) rfl ?_ ?_
              · exact xv_mk (L' := [some (xr a0), some (xi a1), some (xi a2), some (xi x1.1), some (xi x1.2.1)]) [true, true, true, true, true] rfl (hj8 (x1.1, M17))
              · exact xv_mk (L' := [some (xr a0), some (xi a1), some (xi a2), none, some (xi x1.2.1)]) [true, true, true, false, true] rfl (hj10 M17)
set_option maxHeartbeats 4000000 in
set_option maxRecDepth 100000 in
theorem S_X12_ask (l : Launch) (a0 : Nat) (a1 : Int) (a2 : Int) (M : xv_M) (q : Int × xv_M) (h : D_X12_ask a0 a1 a2 M = some q) : xv_Met l yX12_ask wsX12_ask rm_X12_ask 0 0 false [xr a0, xi a1, xi a2] M (xv_qI false q) := by
  refine xv_enter (cc := cX12_ask) (nL := 3) (ret := (some .int)) rfl (by decide +kernel) (Nat.le_of_ble_eq_true rfl) h ?_
  intro Y hY0 hl hR hnL hfl hret hnm0
  have hY : xv_ok Y cX12_ask wsX12_ask RX12 := hY0
  unfold D_X12_ask
  refine xv_mk (L' := [some (xr a0), some (xi a1), some (xi a2)]) [true, true, true] rfl ?_
  refine xv_iload_n rfl rfl hY dX12_ask_0 rfl ?_
  refine xv_iconst hY dX12_ask_1 rfl ?_
  refine xv_sipush (by decide) hY dX12_ask_2 rfl ?_
  refine xv_callSI (y := yX12_in) (ws := wsX12_in) (rm := rm_X12_in) (mc := 0) (ms := 0) (n := 3) (av := [xi a1, xi (0 : Int), xi (1000 : Int)]) hY dX12_ask_5 rfl rfl (fun q hq => by rw [hfl]; exact S_X12_in Y.1.2.1 a1 (0 : Int) (1000 : Int) M q hq) (va_cwS 3 hY.2.2.2.2.1 gX12_ask_X12_in rfl rfl rfl (by decide +kernel) ⟨(by rw [hR]; exact Nat.le_of_ble_eq_true rfl), (by rw [hR]; exact Nat.le_of_ble_eq_true rfl)⟩) rfl (Nat.le_of_ble_eq_true rfl) ⟨(by rw [hR]; exact Nat.le_of_ble_eq_true rfl), (by rw [hR]; exact Nat.le_of_ble_eq_true rfl)⟩ (fun z2 M1 => ?_)
  refine xv_if_ne (t := 14) hY dX12_ask_8 (by decide) rfl ?_ ?_
  · refine xv_iload_n rfl rfl hY dX12_ask_14 rfl ?_
    refine xv_byg (fun hz => ?_)
    refine xv_byif (fun h0 => ?_) (fun h0 => ?_)
    · refine xv_swIn (off := 33) (t := 48) hY dX12_ask_15 (xv_inb_in hz) (by omega) (by omega) (by rw [h0]; rfl) (by decide) ?_
      refine xv_aload_n rfl rfl hY dX12_ask_48 rfl ?_
      refine xv_iload_n rfl rfl hY dX12_ask_49 rfl ?_
      refine xv_callVI (ci := 12) (y := yX12_covering) (ws := wsX12_covering) (rm := rm_X12_covering) (mc := 0) (ms := 0) (n := 1) (av := [xi a1]) hY dX12_ask_50 rfl rfl rfl (by decide) (fun q hq => by rw [hfl]; exact S_X12_covering Y.1.2.1 a0 a1 M1 q hq) (cwV 1 hY.2.2.2.2.1 gX12_ask_X12_covering rfl rfl rfl (by decide +kernel) ⟨(by rw [hR]; exact Nat.le_of_ble_eq_true rfl), (by rw [hR]; exact Nat.le_of_ble_eq_true rfl)⟩) rfl (Nat.le_of_ble_eq_true rfl) ⟨(by rw [hR]; exact Nat.le_of_ble_eq_true rfl), (by rw [hR]; exact Nat.le_of_ble_eq_true rfl)⟩ (fun z12 M11 => ?_)
      exact xv_ireti hY hfl dX12_ask_53 hret (Nat.le_of_ble_eq_true rfl) (Nat.le_of_ble_eq_true rfl)
    · refine xv_byif (fun h1 => ?_) (fun h1 => ?_)
      · refine xv_swIn (off := 39) (t := 54) hY dX12_ask_15 (xv_inb_in hz) (by omega) (by omega) (by rw [h1]; rfl) (by decide) ?_
        refine xv_aload_n rfl rfl hY dX12_ask_54 rfl ?_
        refine xv_iload_n rfl rfl hY dX12_ask_55 rfl ?_
        refine xv_iload_n rfl rfl hY dX12_ask_56 rfl ?_
        refine xv_callVI (ci := 12) (y := yX12_way) (ws := wsX12_way) (rm := rm_X12_way) (mc := 0) (ms := 0) (n := 2) (av := [xi a1, xi a2]) hY dX12_ask_57 rfl rfl rfl (by decide) (fun q hq => by rw [hfl]; exact S_X12_way Y.1.2.1 a0 a1 a2 M1 q hq) (cwV 2 hY.2.2.2.2.1 gX12_ask_X12_way rfl rfl rfl (by decide +kernel) ⟨(by rw [hR]; exact Nat.le_of_ble_eq_true rfl), (by rw [hR]; exact Nat.le_of_ble_eq_true rfl)⟩) rfl (Nat.le_of_ble_eq_true rfl) ⟨(by rw [hR]; exact Nat.le_of_ble_eq_true rfl), (by rw [hR]; exact Nat.le_of_ble_eq_true rfl)⟩ (fun z10 M9 => ?_)
        exact xv_ireti hY hfl dX12_ask_60 hret (Nat.le_of_ble_eq_true rfl) (Nat.le_of_ble_eq_true rfl)
      · refine xv_byif (fun h2 => ?_) (fun h2 => ?_)
        · refine xv_swIn (off := 39) (t := 54) hY dX12_ask_15 (xv_inb_in hz) (by omega) (by omega) (by rw [h2]; rfl) (by decide) ?_
          refine xv_aload_n rfl rfl hY dX12_ask_54 rfl ?_
          refine xv_iload_n rfl rfl hY dX12_ask_55 rfl ?_
          refine xv_iload_n rfl rfl hY dX12_ask_56 rfl ?_
          refine xv_callVI (ci := 12) (y := yX12_way) (ws := wsX12_way) (rm := rm_X12_way) (mc := 0) (ms := 0) (n := 2) (av := [xi a1, xi a2]) hY dX12_ask_57 rfl rfl rfl (by decide) (fun q hq => by rw [hfl]; exact S_X12_way Y.1.2.1 a0 a1 a2 M1 q hq) (cwV 2 hY.2.2.2.2.1 gX12_ask_X12_way rfl rfl rfl (by decide +kernel) ⟨(by rw [hR]; exact Nat.le_of_ble_eq_true rfl), (by rw [hR]; exact Nat.le_of_ble_eq_true rfl)⟩) rfl (Nat.le_of_ble_eq_true rfl) ⟨(by rw [hR]; exact Nat.le_of_ble_eq_true rfl), (by rw [hR]; exact Nat.le_of_ble_eq_true rfl)⟩ (fun z8 M7 => ?_)
          exact xv_ireti hY hfl dX12_ask_60 hret (Nat.le_of_ble_eq_true rfl) (Nat.le_of_ble_eq_true rfl)
        · refine xv_byif (fun h3 => ?_) (fun h3 => ?_)
          · refine xv_swIn (off := 46) (t := 61) hY dX12_ask_15 (xv_inb_in hz) (by omega) (by omega) (by rw [h3]; rfl) (by decide) ?_
            refine xv_aload_n rfl rfl hY dX12_ask_61 rfl ?_
            refine xv_iload_n rfl rfl hY dX12_ask_62 rfl ?_
            refine xv_iconst hY dX12_ask_63 rfl ?_
            refine xv_callVI (ci := 12) (y := yX12_chosen) (ws := wsX12_chosen) (rm := rm_X12_chosen) (mc := 0) (ms := 0) (n := 2) (av := [xi a1, xi (0 : Int)]) hY dX12_ask_64 rfl rfl rfl (by decide) (fun q hq => by rw [hfl]; exact S_X12_chosen Y.1.2.1 a0 a1 (0 : Int) M1 q hq) (cwV 2 hY.2.2.2.2.1 gX12_ask_X12_chosen rfl rfl rfl (by decide +kernel) ⟨(by rw [hR]; exact Nat.le_of_ble_eq_true rfl), (by rw [hR]; exact Nat.le_of_ble_eq_true rfl)⟩) rfl (Nat.le_of_ble_eq_true rfl) ⟨(by rw [hR]; exact Nat.le_of_ble_eq_true rfl), (by rw [hR]; exact Nat.le_of_ble_eq_true rfl)⟩ (fun z6 M5 => ?_)
            exact xv_ireti hY hfl dX12_ask_67 hret (Nat.le_of_ble_eq_true rfl) (Nat.le_of_ble_eq_true rfl)
          · refine xv_byif (fun h4 => ?_) (fun h4 => ?_)
            · refine xv_swIn (off := 53) (t := 68) hY dX12_ask_15 (xv_inb_in hz) (by omega) (by omega) (by rw [h4]; rfl) (by decide) ?_
              refine xv_aload_n rfl rfl hY dX12_ask_68 rfl ?_
              refine xv_iload_n rfl rfl hY dX12_ask_69 rfl ?_
              refine xv_iconst hY dX12_ask_70 rfl ?_
              refine xv_callVI (ci := 12) (y := yX12_chosen) (ws := wsX12_chosen) (rm := rm_X12_chosen) (mc := 0) (ms := 0) (n := 2) (av := [xi a1, xi (1 : Int)]) hY dX12_ask_71 rfl rfl rfl (by decide) (fun q hq => by rw [hfl]; exact S_X12_chosen Y.1.2.1 a0 a1 (1 : Int) M1 q hq) (cwV 2 hY.2.2.2.2.1 gX12_ask_X12_chosen rfl rfl rfl (by decide +kernel) ⟨(by rw [hR]; exact Nat.le_of_ble_eq_true rfl), (by rw [hR]; exact Nat.le_of_ble_eq_true rfl)⟩) rfl (Nat.le_of_ble_eq_true rfl) ⟨(by rw [hR]; exact Nat.le_of_ble_eq_true rfl), (by rw [hR]; exact Nat.le_of_ble_eq_true rfl)⟩ (fun z4 M3 => ?_)
              exact xv_ireti hY hfl dX12_ask_74 hret (Nat.le_of_ble_eq_true rfl) (Nat.le_of_ble_eq_true rfl)
            · refine xv_swOut hY dX12_ask_15 (xv_inb_in hz) (by omega) (t := 75) (by decide) ?_
              refine xv_bipush (by decide) hY dX12_ask_75 rfl ?_
              exact xv_ireti hY hfl dX12_ask_77 hret (Nat.le_of_ble_eq_true rfl) (Nat.le_of_ble_eq_true rfl)
  · refine xv_bipush (by decide) hY dX12_ask_11 rfl ?_
    exact xv_ireti hY hfl dX12_ask_13 hret (Nat.le_of_ble_eq_true rfl) (Nat.le_of_ble_eq_true rfl)
set_option maxHeartbeats 4000000 in
set_option maxRecDepth 100000 in
theorem S_X12_free (l : Launch) (a0 : Nat) (a1 : Int) (a2 : Int) (M : xv_M) (q : Int × xv_M) (h : D_X12_free a0 a1 a2 M = some q) : xv_Met l yX12_free wsX12_free rm_X12_free 0 0 false [xr a0, xi a1, xi a2] M (xv_qI false q) := by
  refine xv_enter (cc := cX12_free) (nL := 4) (ret := (some .int)) rfl (by decide +kernel) (Nat.le_of_ble_eq_true rfl) h ?_
  intro Y hY0 hl hR hnL hfl hret hnm0
  have hY : xv_ok Y cX12_free wsX12_free RX12 := hY0
  unfold D_X12_free
  refine xv_mk (L' := [some (xr a0), some (xi a1), some (xi a2), none]) [true, true, true, true] rfl ?_
  refine xv_iload_n rfl rfl hY dX12_free_0 rfl ?_
  refine xv_iconst hY dX12_free_1 rfl ?_
  refine xv_sipush (by decide) hY dX12_free_2 rfl ?_
  refine xv_callSI (y := yX12_in) (ws := wsX12_in) (rm := rm_X12_in) (mc := 0) (ms := 0) (n := 3) (av := [xi a1, xi (0 : Int), xi (1000 : Int)]) hY dX12_free_5 rfl rfl (fun q hq => by rw [hfl]; exact S_X12_in Y.1.2.1 a1 (0 : Int) (1000 : Int) M q hq) (va_cwS 3 hY.2.2.2.2.1 gX12_free_X12_in rfl rfl rfl (by decide +kernel) ⟨(by rw [hR]; exact Nat.le_of_ble_eq_true rfl), (by rw [hR]; exact Nat.le_of_ble_eq_true rfl)⟩) rfl (Nat.le_of_ble_eq_true rfl) ⟨(by rw [hR]; exact Nat.le_of_ble_eq_true rfl), (by rw [hR]; exact Nat.le_of_ble_eq_true rfl)⟩ (fun z2 M1 => ?_)
  refine xv_if_ne (t := 14) hY dX12_free_8 (by decide) rfl ?_ ?_
  · refine xv_iload_n rfl rfl hY dX12_free_14 rfl ?_
    refine xv_istore_n (L' := [some (xr a0), some (xi a1), some (xi a2), some (xi a1)]) hY dX12_free_15 rfl rfl (by rw [hnL]; decide) rfl rfl ?_
    refine xv_mk (L' := [some (xr a0), none, some (xi a2), some (xi a1)]) [true, false, true, true] rfl ?_
    refine xv_loop (σ := Int × xv_M) (fun x3 => [some (xr a0), none, some (xi a2), some (xi x3.1)]) (fun x3 => x3.2) (fun f4 hf4 x3 => ?_) xv_fuel (a1, M1)
    refine xv_iload_n rfl rfl hY dX12_free_16 rfl ?_
    refine xv_iconst hY dX12_free_17 rfl ?_
    refine xv_sipush (by decide) hY dX12_free_18 rfl ?_
    refine xv_callSI (y := yX12_in) (ws := wsX12_in) (rm := rm_X12_in) (mc := 0) (ms := 0) (n := 3) (av := [xi x3.1, xi (0 : Int), xi (1000 : Int)]) hY dX12_free_21 rfl rfl (fun q hq => by rw [hfl]; exact S_X12_in Y.1.2.1 x3.1 (0 : Int) (1000 : Int) x3.2 q hq) (va_cwS 3 hY.2.2.2.2.1 gX12_free_X12_in rfl rfl rfl (by decide +kernel) ⟨(by rw [hR]; exact Nat.le_of_ble_eq_true rfl), (by rw [hR]; exact Nat.le_of_ble_eq_true rfl)⟩) rfl (Nat.le_of_ble_eq_true rfl) ⟨(by rw [hR]; exact Nat.le_of_ble_eq_true rfl), (by rw [hR]; exact Nat.le_of_ble_eq_true rfl)⟩ (fun z6 M5 => ?_)
    refine xv_join (α := xv_M) 50 (fun x7 => [none, none, none, some (xi x3.1)]) (fun x7 => []) (fun x7 => x7) (fun x7 => ?_) (fun j8 hj8 => ?_)
    · refine xv_iload_n rfl rfl hY dX12_free_50 rfl ?_
      refine xv_iconst hY dX12_free_51 rfl ?_
      refine xv_sipush (by decide) hY dX12_free_52 rfl ?_
      refine xv_callSI (y := yX12_in) (ws := wsX12_in) (rm := rm_X12_in) (mc := 0) (ms := 0) (n := 3) (av := [xi x3.1, xi (0 : Int), xi (1000 : Int)]) hY dX12_free_55 rfl rfl (fun q hq => by rw [hfl]; exact S_X12_in Y.1.2.1 x3.1 (0 : Int) (1000 : Int) x7 q hq) (va_cwS 3 hY.2.2.2.2.1 gX12_free_X12_in rfl rfl rfl (by decide +kernel) ⟨(by rw [hR]; exact Nat.le_of_ble_eq_true rfl), (by rw [hR]; exact Nat.le_of_ble_eq_true rfl)⟩) rfl (Nat.le_of_ble_eq_true rfl) ⟨(by rw [hR]; exact Nat.le_of_ble_eq_true rfl), (by rw [hR]; exact Nat.le_of_ble_eq_true rfl)⟩ (fun z10 M9 => ?_)
      refine xv_if_eq (t := 65) hY dX12_free_58 (by decide) rfl ?_ ?_
      · refine xv_bipush (by decide) hY dX12_free_65 rfl ?_
        exact xv_ireti hY hfl dX12_free_67 hret (Nat.le_of_ble_eq_true rfl) (Nat.le_of_ble_eq_true rfl)
      · refine xv_iload_n rfl rfl hY dX12_free_61 rfl ?_
        refine xv_goto (pc' := 67) hY dX12_free_62 (by decide) ?_
        exact xv_ireti hY hfl dX12_free_67 hret (Nat.le_of_ble_eq_true rfl) (Nat.le_of_ble_eq_true rfl)
    · refine xv_if_eq (t := 50) hY dX12_free_24 (by decide) rfl ?_ ?_
      · exact xv_mk (L' := [none, none, none, some (xi x3.1)]) [false, false, false, true] rfl (hj8 M5)
      · refine xv_aload_n rfl rfl hY dX12_free_27 rfl ?_
        refine xv_iload_n rfl rfl hY dX12_free_28 rfl ?_
        refine xv_callVI (ci := 12) (y := yX12_covering) (ws := wsX12_covering) (rm := rm_X12_covering) (mc := 0) (ms := 0) (n := 1) (av := [xi x3.1]) hY dX12_free_29 rfl rfl rfl (by decide) (fun q hq => by rw [hfl]; exact S_X12_covering Y.1.2.1 a0 x3.1 M5 q hq) (cwV 1 hY.2.2.2.2.1 gX12_free_X12_covering rfl rfl rfl (by decide +kernel) ⟨(by rw [hR]; exact Nat.le_of_ble_eq_true rfl), (by rw [hR]; exact Nat.le_of_ble_eq_true rfl)⟩) rfl (Nat.le_of_ble_eq_true rfl) ⟨(by rw [hR]; exact Nat.le_of_ble_eq_true rfl), (by rw [hR]; exact Nat.le_of_ble_eq_true rfl)⟩ (fun z12 M11 => ?_)
        refine xv_if_le (t := 50) hY dX12_free_32 (by decide) rfl ?_ ?_
        · exact xv_mk (L' := [none, none, none, some (xi x3.1)]) [false, false, false, true] rfl (hj8 M11)
        · refine xv_iload_n rfl rfl hY dX12_free_35 rfl ?_
          refine xv_iload_n rfl rfl hY dX12_free_36 rfl ?_
          refine xv_join (α := Int × Int) 45 (fun x13 => [some (xr a0), none, some (xi a2), none]) (fun x13 => [xi x13.2, xi x13.1]) (fun x13 => M11) (fun x13 => ?_) (fun j14 hj14 => ?_)
          · refine xv_iadd hY dX12_free_45 rfl ?_
            refine xv_istore_n (L' := [some (xr a0), none, some (xi a2), some (xi (x13.1 + x13.2))]) hY dX12_free_46 rfl rfl (by rw [hnL]; decide) rfl rfl ?_
            refine xv_goto (pc' := 16) hY dX12_free_47 (by decide) ?_
            exact xv_mk (L' := [some (xr a0), none, some (xi a2), some (xi (x13.1 + x13.2))]) [true, false, true, true] rfl (hf4 ((x13.1 + x13.2), M11))
          · refine xv_if_eq (t := 44) hY dX12_free_37 (by decide) rfl ?_ ?_
            · refine xv_iconst hY dX12_free_44 rfl ?_
              exact xv_mk (L' := [some (xr a0), none, some (xi a2), none]) [true, false, true, false] rfl (hj14 (x3.1, (-1 : Int)))
            · refine xv_iconst hY dX12_free_40 rfl ?_
              refine xv_goto (pc' := 45) hY dX12_free_41 (by decide) ?_
              exact xv_mk (L' := [some (xr a0), none, some (xi a2), none]) [true, false, true, false] rfl (hj14 (x3.1, (1 : Int)))
  · refine xv_bipush (by decide) hY dX12_free_11 rfl ?_
    exact xv_ireti hY hfl dX12_free_13 hret (Nat.le_of_ble_eq_true rfl) (Nat.le_of_ble_eq_true rfl)
set_option maxHeartbeats 4000000 in
set_option maxRecDepth 100000 in
theorem S_X12_most (l : Launch) (a0 : Nat) (a1 : Int) (M : xv_M) (q : Int × xv_M) (h : D_X12_most a0 a1 M = some q) : xv_Met l yX12_most wsX12_most rm_X12_most 0 0 false [xr a0, xi a1] M (xv_qI false q) := by
  refine xv_enter (cc := cX12_most) (nL := 7) (ret := (some .int)) rfl (by decide +kernel) (Nat.le_of_ble_eq_true rfl) h ?_
  intro Y hY0 hl hR hnL hfl hret hnm0
  have hY : xv_ok Y cX12_most wsX12_most RX12 := hY0
  unfold D_X12_most
  refine xv_mk (L' := [some (xr a0), some (xi a1), none, none, none, none, none]) [true, true, true, true, true, true, true] rfl ?_
  refine xv_iload_n rfl rfl hY dX12_most_0 rfl ?_
  refine xv_iconst hY dX12_most_1 rfl ?_
  refine xv_iconst hY dX12_most_2 rfl ?_
  refine xv_callSI (y := yX12_in) (ws := wsX12_in) (rm := rm_X12_in) (mc := 0) (ms := 0) (n := 3) (av := [xi a1, xi (0 : Int), xi (2 : Int)]) hY dX12_most_3 rfl rfl (fun q hq => by rw [hfl]; exact S_X12_in Y.1.2.1 a1 (0 : Int) (2 : Int) M q hq) (va_cwS 3 hY.2.2.2.2.1 gX12_most_X12_in rfl rfl rfl (by decide +kernel) ⟨(by rw [hR]; exact Nat.le_of_ble_eq_true rfl), (by rw [hR]; exact Nat.le_of_ble_eq_true rfl)⟩) rfl (Nat.le_of_ble_eq_true rfl) ⟨(by rw [hR]; exact Nat.le_of_ble_eq_true rfl), (by rw [hR]; exact Nat.le_of_ble_eq_true rfl)⟩ (fun z2 M1 => ?_)
  refine xv_if_ne (t := 12) hY dX12_most_6 (by decide) rfl ?_ ?_
  · refine xv_iconst hY dX12_most_12 rfl ?_
    refine xv_istore_n (L' := [some (xr a0), some (xi a1), some (xi (0 : Int)), none, none, none, none]) hY dX12_most_13 rfl rfl (by rw [hnL]; decide) rfl rfl ?_
    refine xv_iconst hY dX12_most_14 rfl ?_
    refine xv_istore_n (L' := [some (xr a0), some (xi a1), some (xi (0 : Int)), some (xi (-1 : Int)), none, none, none]) hY dX12_most_15 rfl rfl (by rw [hnL]; decide) rfl rfl ?_
    refine xv_iconst hY dX12_most_16 rfl ?_
    refine xv_istore (L' := [some (xr a0), some (xi a1), some (xi (0 : Int)), some (xi (-1 : Int)), some (xi (0 : Int)), none, none]) hY dX12_most_17 rfl (by rw [hnL]; decide) rfl rfl ?_
    refine xv_iconst hY dX12_most_19 rfl ?_
    refine xv_istore (L' := [some (xr a0), some (xi a1), some (xi (0 : Int)), some (xi (-1 : Int)), some (xi (0 : Int)), some (xi (0 : Int)), none]) hY dX12_most_20 rfl (by rw [hnL]; decide) rfl rfl ?_
    refine xv_mk (L' := [some (xr a0), some (xi a1), some (xi (0 : Int)), some (xi (-1 : Int)), some (xi (0 : Int)), some (xi (0 : Int)), none]) [true, true, true, true, true, true, false] rfl ?_
    refine xv_loop (σ := Int × Int × Int × Int × xv_M) (fun x3 => [some (xr a0), some (xi a1), some (xi x3.1), some (xi x3.2.1), some (xi x3.2.2.1), some (xi x3.2.2.2.1), none]) (fun x3 => x3.2.2.2.2) (fun f4 hf4 x3 => ?_) xv_fuel ((0 : Int), (-1 : Int), (0 : Int), (0 : Int), M1)
    refine xv_iload rfl hY dX12_most_22 rfl ?_
    refine xv_sipush (by decide) hY dX12_most_24 rfl ?_
    refine xv_icmp_gt (t := 71) hY dX12_most_27 (by decide) rfl ?_ ?_
    · refine xv_iload_n rfl rfl hY dX12_most_71 rfl ?_
      refine xv_if_ne (t := 79) hY dX12_most_72 (by decide) rfl ?_ ?_
      · refine xv_iload_n rfl rfl hY dX12_most_79 rfl ?_
        refine xv_iconst hY dX12_most_80 rfl ?_
        refine xv_icmp_ne (t := 88) hY dX12_most_81 (by decide) rfl ?_ ?_
        · refine xv_iload rfl hY dX12_most_88 rfl ?_
          exact xv_ireti hY hfl dX12_most_90 hret (Nat.le_of_ble_eq_true rfl) (Nat.le_of_ble_eq_true rfl)
        · refine xv_iload_n rfl rfl hY dX12_most_84 rfl ?_
          refine xv_goto (pc' := 90) hY dX12_most_85 (by decide) ?_
          exact xv_ireti hY hfl dX12_most_90 hret (Nat.le_of_ble_eq_true rfl) (Nat.le_of_ble_eq_true rfl)
      · refine xv_iload_n rfl rfl hY dX12_most_75 rfl ?_
        refine xv_goto (pc' := 90) hY dX12_most_76 (by decide) ?_
        exact xv_ireti hY hfl dX12_most_90 hret (Nat.le_of_ble_eq_true rfl) (Nat.le_of_ble_eq_true rfl)
    · refine xv_aload_n rfl rfl hY dX12_most_30 rfl ?_
      refine xv_iload rfl hY dX12_most_31 rfl ?_
      refine xv_callVI (ci := 12) (y := yX12_covering) (ws := wsX12_covering) (rm := rm_X12_covering) (mc := 0) (ms := 0) (n := 1) (av := [xi x3.2.2.2.1]) hY dX12_most_33 rfl rfl rfl (by decide) (fun q hq => by rw [hfl]; exact S_X12_covering Y.1.2.1 a0 x3.2.2.2.1 x3.2.2.2.2 q hq) (cwV 1 hY.2.2.2.2.1 gX12_most_X12_covering rfl rfl rfl (by decide +kernel) ⟨(by rw [hR]; exact Nat.le_of_ble_eq_true rfl), (by rw [hR]; exact Nat.le_of_ble_eq_true rfl)⟩) rfl (Nat.le_of_ble_eq_true rfl) ⟨(by rw [hR]; exact Nat.le_of_ble_eq_true rfl), (by rw [hR]; exact Nat.le_of_ble_eq_true rfl)⟩ (fun z6 M5 => ?_)
      refine xv_istore (L' := [some (xr a0), some (xi a1), some (xi x3.1), some (xi x3.2.1), some (xi x3.2.2.1), some (xi x3.2.2.2.1), some (xi z6)]) hY dX12_most_36 rfl (by rw [hnL]; decide) rfl rfl ?_
      refine xv_iload rfl hY dX12_most_38 rfl ?_
      refine xv_iload_n rfl rfl hY dX12_most_40 rfl ?_
      refine xv_join (α := Int × Int) 50 (fun x7 => [some (xr a0), some (xi a1), some (xi x7.1), some (xi x7.2), some (xi x3.2.2.1), some (xi x3.2.2.2.1), some (xi z6)]) (fun x7 => []) (fun x7 => M5) (fun x7 => ?_) (fun j8 hj8 => ?_)
      · refine xv_iload rfl hY dX12_most_50 rfl ?_
        refine xv_iload rfl hY dX12_most_52 rfl ?_
        refine xv_join (α := Int × Int) 62 (fun x9 => [some (xr a0), some (xi a1), some (xi x7.1), some (xi x7.2), none, some (xi x3.2.2.2.1), none]) (fun x9 => [xi x9.2, xi x9.1]) (fun x9 => M5) (fun x9 => ?_) (fun j10 hj10 => ?_)
        · refine xv_iadd hY dX12_most_62 rfl ?_
          refine xv_istore (L' := [some (xr a0), some (xi a1), some (xi x7.1), some (xi x7.2), some (xi (x9.1 + x9.2)), some (xi x3.2.2.2.1), none]) hY dX12_most_63 rfl (by rw [hnL]; decide) rfl rfl ?_
          refine xv_iinc (L' := [some (xr a0), some (xi a1), some (xi x7.1), some (xi x7.2), some (xi (x9.1 + x9.2)), some (xi (x3.2.2.2.1 + 1)), none]) hY dX12_most_65 rfl (by rw [hnL]; decide) rfl rfl rfl ?_
          refine xv_goto (pc' := 22) hY dX12_most_68 (by decide) ?_
          exact xv_mk (L' := [some (xr a0), some (xi a1), some (xi x7.1), some (xi x7.2), some (xi (x9.1 + x9.2)), some (xi (x3.2.2.2.1 + 1)), none]) [true, true, true, true, true, true, false] rfl (hf4 (x7.1, x7.2, (x9.1 + x9.2), (x3.2.2.2.1 + 1), M5))
        · refine xv_if_ne (t := 61) hY dX12_most_54 (by decide) rfl ?_ ?_
          · refine xv_iconst hY dX12_most_61 rfl ?_
            exact xv_mk (L' := [some (xr a0), some (xi a1), some (xi x7.1), some (xi x7.2), none, some (xi x3.2.2.2.1), none]) [true, true, true, true, false, true, false] rfl (hj10 (x3.2.2.1, (0 : Int)))
          · refine xv_iconst hY dX12_most_57 rfl ?_
            refine xv_goto (pc' := 62) hY dX12_most_58 (by decide) ?_
            exact xv_mk (L' := [some (xr a0), some (xi a1), some (xi x7.1), some (xi x7.2), none, some (xi x3.2.2.2.1), none]) [true, true, true, true, false, true, false] rfl (hj10 (x3.2.2.1, (1 : Int)))
      · refine xv_icmp_le (t := 50) hY dX12_most_41 (by decide) rfl ?_ ?_
        · exact xv_mk (L' := [some (xr a0), some (xi a1), some (xi x3.1), some (xi x3.2.1), some (xi x3.2.2.1), some (xi x3.2.2.2.1), some (xi z6)]) [true, true, true, true, true, true, true] rfl (hj8 (x3.1, x3.2.1))
        · refine xv_iload rfl hY dX12_most_44 rfl ?_
          refine xv_istore_n (L' := [some (xr a0), some (xi a1), some (xi x3.2.2.2.1), some (xi x3.2.1), some (xi x3.2.2.1), some (xi x3.2.2.2.1), some (xi z6)]) hY dX12_most_46 rfl rfl (by rw [hnL]; decide) rfl rfl ?_
          refine xv_iload rfl hY dX12_most_47 rfl ?_
          refine xv_istore_n (L' := [some (xr a0), some (xi a1), some (xi x3.2.2.2.1), some (xi z6), some (xi x3.2.2.1), some (xi x3.2.2.2.1), some (xi z6)]) hY dX12_most_49 rfl rfl (by rw [hnL]; decide) rfl rfl ?_
          exact xv_mk (L' := [some (xr a0), some (xi a1), some (xi x3.2.2.2.1), some (xi z6), some (xi x3.2.2.1), some (xi x3.2.2.2.1), some (xi z6)]) [true, true, true, true, true, true, true] rfl (hj8 (x3.2.2.2.1, z6))
  · refine xv_bipush (by decide) hY dX12_most_9 rfl ?_
    exact xv_ireti hY hfl dX12_most_11 hret (Nat.le_of_ble_eq_true rfl) (Nat.le_of_ble_eq_true rfl)
set_option maxHeartbeats 4000000 in
set_option maxRecDepth 100000 in
theorem S_X12_isOther (l : Launch) (a0 : Nat) (a1 : Int) (a2 : Int) (M : xv_M) (q : Int × xv_M) (h : D_X12_isOther a0 a1 a2 M = some q) : xv_Met l yX12_isOther wsX12_isOther rm_X12_isOther 0 0 false [xr a0, xi a1, xi a2] M (xv_qI false q) := by
  refine xv_enter (cc := cX12_isOther) (nL := 4) (ret := (some .boolean)) rfl (by decide +kernel) (Nat.le_of_ble_eq_true rfl) h ?_
  intro Y hY0 hl hR hnL hfl hret hnm0
  have hY : xv_ok Y cX12_isOther wsX12_isOther RX12 := hY0
  have hin12 : ∀ w ∈ u_ws RX12 TX12 18, w ∈ wsX12_isOther := fun _ h => List.mem_cons_of_mem _ (List.mem_append_right _ h)
  unfold D_X12_isOther
  refine xv_mk (L' := [some (xr a0), some (xi a1), some (xi a2), none]) [true, true, true, true] rfl ?_
  refine xv_iconst hY dX12_isOther_0 rfl ?_
  refine xv_istore_n (L' := [some (xr a0), some (xi a1), some (xi a2), some (xi (0 : Int))]) hY dX12_isOther_1 rfl rfl (by rw [hnL]; decide) rfl rfl ?_
  refine xv_mk (L' := [some (xr a0), some (xi a1), some (xi a2), some (xi (0 : Int))]) [true, true, true, true] rfl ?_
  refine xv_loop (σ := Int × xv_M) (fun x1 => [some (xr a0), some (xi a1), some (xi a2), some (xi x1.1)]) (fun x1 => x1.2) (fun f2 hf2 x1 => ?_) xv_fuel ((0 : Int), M)
  refine xv_iload_n rfl rfl hY dX12_isOther_2 rfl ?_
  refine xv_aload_n rfl rfl hY dX12_isOther_3 rfl ?_
  refine xv_getP (ci := 12) (j := 0) hY dX12_isOther_4 rfl rfl rfl (by decide) hin12 (by decide) rfl (List.mem_of_getElem? (i := 1) rfl) (fun v3 => ?_)
  refine xv_iconst hY dX12_isOther_7 rfl ?_
  refine xv_iald hY dX12_isOther_8 rfl (fun v4 => ?_)
  refine xv_icmp_ge (t := 35) hY dX12_isOther_9 (by decide) rfl ?_ ?_
  · refine xv_iconst hY dX12_isOther_35 rfl ?_
    exact xv_iretz hY hfl dX12_isOther_36 hret (Nat.le_of_ble_eq_true rfl) (Nat.le_of_ble_eq_true rfl)
  · refine xv_aload_n rfl rfl hY dX12_isOther_12 rfl ?_
    refine xv_iload_n rfl rfl hY dX12_isOther_13 rfl ?_
    refine xv_iload_n rfl rfl hY dX12_isOther_14 rfl ?_
    refine xv_callVI (ci := 12) (y := yX12_covers) (ws := wsX12_covers) (rm := rm_X12_covers) (mc := 0) (ms := 0) (n := 2) (av := [xi x1.1, xi a1]) hY dX12_isOther_15 rfl rfl rfl (by decide) (fun q hq => by rw [hfl]; exact S_X12_covers Y.1.2.1 a0 x1.1 a1 x1.2 q hq) (cwV 2 hY.2.2.2.2.1 gX12_isOther_X12_covers rfl rfl rfl (by decide +kernel) ⟨(by rw [hR]; exact Nat.le_of_ble_eq_true rfl), (by rw [hR]; exact Nat.le_of_ble_eq_true rfl)⟩) rfl (Nat.le_of_ble_eq_true rfl) ⟨(by rw [hR]; exact Nat.le_of_ble_eq_true rfl), (by rw [hR]; exact Nat.le_of_ble_eq_true rfl)⟩ (fun z6 M5 => ?_)
    refine xv_aload_n rfl rfl hY dX12_isOther_18 rfl ?_
    refine xv_iload_n rfl rfl hY dX12_isOther_19 rfl ?_
    refine xv_iload_n rfl rfl hY dX12_isOther_20 rfl ?_
    refine xv_callVI (ci := 12) (y := yX12_covers) (ws := wsX12_covers) (rm := rm_X12_covers) (mc := 0) (ms := 0) (n := 2) (av := [xi x1.1, xi a2]) hY dX12_isOther_21 rfl rfl rfl (by decide) (fun q hq => by rw [hfl]; exact S_X12_covers Y.1.2.1 a0 x1.1 a2 M5 q hq) (cwV 2 hY.2.2.2.2.1 gX12_isOther_X12_covers rfl rfl rfl (by decide +kernel) ⟨(by rw [hR]; exact Nat.le_of_ble_eq_true rfl), (by rw [hR]; exact Nat.le_of_ble_eq_true rfl)⟩) rfl (Nat.le_of_ble_eq_true rfl) ⟨(by rw [hR]; exact Nat.le_of_ble_eq_true rfl), (by rw [hR]; exact Nat.le_of_ble_eq_true rfl)⟩ (fun z8 M7 => ?_)
    refine xv_icmp_eq (t := 29) hY dX12_isOther_24 (by decide) rfl ?_ ?_
    · refine xv_iinc (L' := [some (xr a0), some (xi a1), some (xi a2), some (xi (x1.1 + 1))]) hY dX12_isOther_29 rfl (by rw [hnL]; decide) rfl rfl rfl ?_
      refine xv_goto (pc' := 2) hY dX12_isOther_32 (by decide) ?_
      exact xv_mk (L' := [some (xr a0), some (xi a1), some (xi a2), some (xi (x1.1 + 1))]) [true, true, true, true] rfl (hf2 ((x1.1 + 1), M7))
    · refine xv_iconst hY dX12_isOther_27 rfl ?_
      exact xv_iretz hY hfl dX12_isOther_28 hret (Nat.le_of_ble_eq_true rfl) (Nat.le_of_ble_eq_true rfl)
set_option maxHeartbeats 4000000 in
set_option maxRecDepth 100000 in
theorem S_X12_changesIn (l : Launch) (a0 : Nat) (a1 : Int) (M : xv_M) (q : Int × xv_M) (h : D_X12_changesIn a0 a1 M = some q) : xv_Met l yX12_changesIn wsX12_changesIn rm_X12_changesIn 0 0 false [xr a0, xi a1] M (xv_qI false q) := by
  refine xv_enter (cc := cX12_changesIn) (nL := 7) (ret := (some .int)) rfl (by decide +kernel) (Nat.le_of_ble_eq_true rfl) h ?_
  intro Y hY0 hl hR hnL hfl hret hnm0
  have hY : xv_ok Y cX12_changesIn wsX12_changesIn RX12 := hY0
  unfold D_X12_changesIn
  refine xv_mk (L' := [some (xr a0), some (xi a1), none, none, none, none, none]) [true, true, true, true, true, true, true] rfl ?_
  refine xv_aload_n rfl rfl hY dX12_changesIn_0 rfl ?_
  refine xv_iload_n rfl rfl hY dX12_changesIn_1 rfl ?_
  refine xv_callVI (ci := 12) (y := yX12_noWalker) (ws := wsX12_noWalker) (rm := rm_X12_noWalker) (mc := 0) (ms := 0) (n := 1) (av := [xi a1]) hY dX12_changesIn_2 rfl rfl rfl (by decide) (fun q hq => by rw [hfl]; exact S_X12_noWalker Y.1.2.1 a0 a1 M q hq) (cwV 1 hY.2.2.2.2.1 gX12_changesIn_X12_noWalker rfl rfl rfl (by decide +kernel) ⟨(by rw [hR]; exact Nat.le_of_ble_eq_true rfl), (by rw [hR]; exact Nat.le_of_ble_eq_true rfl)⟩) rfl (Nat.le_of_ble_eq_true rfl) ⟨(by rw [hR]; exact Nat.le_of_ble_eq_true rfl), (by rw [hR]; exact Nat.le_of_ble_eq_true rfl)⟩ (fun z2 M1 => ?_)
  refine xv_if_eq (t := 10) hY dX12_changesIn_5 (by decide) rfl ?_ ?_
  · refine xv_aload_n rfl rfl hY dX12_changesIn_10 rfl ?_
    refine xv_iload_n rfl rfl hY dX12_changesIn_11 rfl ?_
    refine xv_iconst hY dX12_changesIn_12 rfl ?_
    refine xv_callVI (ci := 12) (y := yX12_its) (ws := wsX12_its) (rm := rm_X12_its) (mc := 0) (ms := 0) (n := 2) (av := [xi a1, xi (0 : Int)]) hY dX12_changesIn_13 rfl rfl rfl (by decide) (fun q hq => by rw [hfl]; exact S_X12_its Y.1.2.1 a0 a1 (0 : Int) M1 q hq) (cwV 2 hY.2.2.2.2.1 gX12_changesIn_X12_its rfl rfl rfl (by decide +kernel) ⟨(by rw [hR]; exact Nat.le_of_ble_eq_true rfl), (by rw [hR]; exact Nat.le_of_ble_eq_true rfl)⟩) rfl (Nat.le_of_ble_eq_true rfl) ⟨(by rw [hR]; exact Nat.le_of_ble_eq_true rfl), (by rw [hR]; exact Nat.le_of_ble_eq_true rfl)⟩ (fun z4 M3 => ?_)
    refine xv_istore_n (L' := [some (xr a0), some (xi a1), some (xi z4), none, none, none, none]) hY dX12_changesIn_16 rfl rfl (by rw [hnL]; decide) rfl rfl ?_
    refine xv_iload_n rfl rfl hY dX12_changesIn_17 rfl ?_
    refine xv_istore_n (L' := [some (xr a0), some (xi a1), some (xi z4), some (xi z4), none, none, none]) hY dX12_changesIn_18 rfl rfl (by rw [hnL]; decide) rfl rfl ?_
    refine xv_aload_n rfl rfl hY dX12_changesIn_19 rfl ?_
    refine xv_iload_n rfl rfl hY dX12_changesIn_20 rfl ?_
    refine xv_iconst hY dX12_changesIn_21 rfl ?_
    refine xv_callVI (ci := 12) (y := yX12_its) (ws := wsX12_its) (rm := rm_X12_its) (mc := 0) (ms := 0) (n := 2) (av := [xi a1, xi (1 : Int)]) hY dX12_changesIn_22 rfl rfl rfl (by decide) (fun q hq => by rw [hfl]; exact S_X12_its Y.1.2.1 a0 a1 (1 : Int) M3 q hq) (cwV 2 hY.2.2.2.2.1 gX12_changesIn_X12_its rfl rfl rfl (by decide +kernel) ⟨(by rw [hR]; exact Nat.le_of_ble_eq_true rfl), (by rw [hR]; exact Nat.le_of_ble_eq_true rfl)⟩) rfl (Nat.le_of_ble_eq_true rfl) ⟨(by rw [hR]; exact Nat.le_of_ble_eq_true rfl), (by rw [hR]; exact Nat.le_of_ble_eq_true rfl)⟩ (fun z6 M5 => ?_)
    refine xv_istore (L' := [some (xr a0), some (xi a1), some (xi z4), some (xi z4), some (xi z6), none, none]) hY dX12_changesIn_25 rfl (by rw [hnL]; decide) rfl rfl ?_
    refine xv_iconst hY dX12_changesIn_27 rfl ?_
    refine xv_istore (L' := [some (xr a0), some (xi a1), some (xi z4), some (xi z4), some (xi z6), some (xi (1 : Int)), none]) hY dX12_changesIn_28 rfl (by rw [hnL]; decide) rfl rfl ?_
    refine xv_mk (L' := [some (xr a0), none, some (xi z4), some (xi z4), some (xi z6), some (xi (1 : Int)), none]) [true, false, true, true, true, true, false] rfl ?_
    refine xv_loop (σ := Int × Int × Int × xv_M) (fun x7 => [some (xr a0), none, some (xi z4), some (xi x7.1), some (xi x7.2.1), some (xi x7.2.2.1), none]) (fun x7 => x7.2.2.2) (fun f8 hf8 x7 => ?_) xv_fuel (z4, z6, (1 : Int), M5)
    refine xv_iload rfl hY dX12_changesIn_30 rfl ?_
    refine xv_sipush (by decide) hY dX12_changesIn_32 rfl ?_
    refine xv_icmp_gt (t := 84) hY dX12_changesIn_35 (by decide) rfl ?_ ?_
    · refine xv_bipush (by decide) hY dX12_changesIn_84 rfl ?_
      exact xv_ireti hY hfl dX12_changesIn_86 hret (Nat.le_of_ble_eq_true rfl) (Nat.le_of_ble_eq_true rfl)
    · refine xv_iload_n rfl rfl hY dX12_changesIn_38 rfl ?_
      refine xv_iload rfl hY dX12_changesIn_39 rfl ?_
      refine xv_iadd hY dX12_changesIn_41 rfl ?_
      refine xv_istore (L' := [some (xr a0), none, some (xi z4), some (xi x7.1), some (xi x7.2.1), some (xi x7.2.2.1), some (xi (x7.1 + x7.2.1))]) hY dX12_changesIn_42 rfl (by rw [hnL]; decide) rfl rfl ?_
      refine xv_iload rfl hY dX12_changesIn_44 rfl ?_
      refine xv_callSI (y := yX12_turned) (ws := wsX12_turned) (rm := rm_X12_turned) (mc := 0) (ms := 0) (n := 1) (av := [xi (x7.1 + x7.2.1)]) hY dX12_changesIn_46 rfl rfl (fun q hq => by rw [hfl]; exact S_X12_turned Y.1.2.1 (x7.1 + x7.2.1) x7.2.2.2 q hq) (va_cwS 1 hY.2.2.2.2.1 gX12_changesIn_X12_turned rfl rfl rfl (by decide +kernel) ⟨(by rw [hR]; exact Nat.le_of_ble_eq_true rfl), (by rw [hR]; exact Nat.le_of_ble_eq_true rfl)⟩) rfl (Nat.le_of_ble_eq_true rfl) ⟨(by rw [hR]; exact Nat.le_of_ble_eq_true rfl), (by rw [hR]; exact Nat.le_of_ble_eq_true rfl)⟩ (fun z10 M9 => ?_)
      refine xv_istore_n (L' := [some (xr a0), none, some (xi z4), some (xi z10), some (xi x7.2.1), some (xi x7.2.2.1), some (xi (x7.1 + x7.2.1))]) hY dX12_changesIn_49 rfl rfl (by rw [hnL]; decide) rfl rfl ?_
      refine xv_iload_n rfl rfl hY dX12_changesIn_50 rfl ?_
      refine xv_iload rfl hY dX12_changesIn_51 rfl ?_
      refine xv_join (α := Int) 64 (fun x11 => [some (xr a0), none, some (xi z4), some (xi z10), none, some (xi x7.2.2.1), none]) (fun x11 => [xi x11]) (fun x11 => M9) (fun x11 => ?_) (fun j12 hj12 => ?_)
      · refine xv_istore (L' := [some (xr a0), none, some (xi z4), some (xi z10), some (xi x11), some (xi x7.2.2.1), none]) hY dX12_changesIn_64 rfl (by rw [hnL]; decide) rfl rfl ?_
        refine xv_aload_n rfl rfl hY dX12_changesIn_66 rfl ?_
        refine xv_iload_n rfl rfl hY dX12_changesIn_67 rfl ?_
        refine xv_iload_n rfl rfl hY dX12_changesIn_68 rfl ?_
        refine xv_callVI (ci := 12) (y := yX12_isOther) (ws := wsX12_isOther) (rm := rm_X12_isOther) (mc := 0) (ms := 0) (n := 2) (av := [xi z4, xi z10]) hY dX12_changesIn_69 rfl rfl rfl (by decide) (fun q hq => by rw [hfl]; exact S_X12_isOther Y.1.2.1 a0 z4 z10 M9 q hq) (cwV 2 hY.2.2.2.2.1 gX12_changesIn_X12_isOther rfl rfl rfl (by decide +kernel) ⟨(by rw [hR]; exact Nat.le_of_ble_eq_true rfl), (by rw [hR]; exact Nat.le_of_ble_eq_true rfl)⟩) rfl (Nat.le_of_ble_eq_true rfl) ⟨(by rw [hR]; exact Nat.le_of_ble_eq_true rfl), (by rw [hR]; exact Nat.le_of_ble_eq_true rfl)⟩ (fun z14 M13 => ?_)
        refine xv_if_eq (t := 78) hY dX12_changesIn_72 (by decide) rfl ?_ ?_
        · refine xv_iinc (L' := [some (xr a0), none, some (xi z4), some (xi z10), some (xi x11), some (xi (x7.2.2.1 + 1)), none]) hY dX12_changesIn_78 rfl (by rw [hnL]; decide) rfl rfl rfl ?_
          refine xv_goto (pc' := 30) hY dX12_changesIn_81 (by decide) ?_
          exact xv_mk (L' := [some (xr a0), none, some (xi z4), some (xi z10), some (xi x11), some (xi (x7.2.2.1 + 1)), none]) [true, false, true, true, true, true, false] rfl (hf8 (z10, x11, (x7.2.2.1 + 1), M13))
        · refine xv_iload rfl hY dX12_changesIn_75 rfl ?_
          exact xv_ireti hY hfl dX12_changesIn_77 hret (Nat.le_of_ble_eq_true rfl) (Nat.le_of_ble_eq_true rfl)
      · refine xv_icmp_ne (t := 61) hY dX12_changesIn_53 (by decide) rfl ?_ ?_
        · refine xv_iload rfl hY dX12_changesIn_61 rfl ?_
          refine xv_ineg hY dX12_changesIn_63 rfl ?_
          exact xv_mk (L' := [some (xr a0), none, some (xi z4), some (xi z10), none, some (xi x7.2.2.1), none]) [true, false, true, true, false, true, false] rfl (hj12 (-x7.2.1))
        · refine xv_iload rfl hY dX12_changesIn_56 rfl ?_
          refine xv_goto (pc' := 64) hY dX12_changesIn_58 (by decide) ?_
          exact xv_mk (L' := [some (xr a0), none, some (xi z4), some (xi z10), none, some (xi x7.2.2.1), none]) [true, false, true, true, false, true, false] rfl (hj12 x7.2.1)
  · refine xv_iconst hY dX12_changesIn_8 rfl ?_
    exact xv_ireti hY hfl dX12_changesIn_9 hret (Nat.le_of_ble_eq_true rfl) (Nat.le_of_ble_eq_true rfl)
set_option maxHeartbeats 4000000 in
set_option maxRecDepth 100000 in
theorem S_X12_meetIn (l : Launch) (a0 : Nat) (a1 : Int) (a2 : Int) (M : xv_M) (q : Int × xv_M) (h : D_X12_meetIn a0 a1 a2 M = some q) : xv_Met l yX12_meetIn wsX12_meetIn rm_X12_meetIn 0 0 false [xr a0, xi a1, xi a2] M (xv_qI false q) := by
  refine xv_enter (cc := cX12_meetIn) (nL := 9) (ret := (some .int)) rfl (by decide +kernel) (Nat.le_of_ble_eq_true rfl) h ?_
  intro Y hY0 hl hR hnL hfl hret hnm0
  have hY : xv_ok Y cX12_meetIn wsX12_meetIn RX12 := hY0
  unfold D_X12_meetIn
  refine xv_mk (L' := [some (xr a0), some (xi a1), some (xi a2), none, none, none, none, none, none]) [true, true, true, true, true, true, true, true, true] rfl ?_
  refine xv_aload_n rfl rfl hY dX12_meetIn_0 rfl ?_
  refine xv_iload_n rfl rfl hY dX12_meetIn_1 rfl ?_
  refine xv_callVI (ci := 12) (y := yX12_noWalker) (ws := wsX12_noWalker) (rm := rm_X12_noWalker) (mc := 0) (ms := 0) (n := 1) (av := [xi a1]) hY dX12_meetIn_2 rfl rfl rfl (by decide) (fun q hq => by rw [hfl]; exact S_X12_noWalker Y.1.2.1 a0 a1 M q hq) (cwV 1 hY.2.2.2.2.1 gX12_meetIn_X12_noWalker rfl rfl rfl (by decide +kernel) ⟨(by rw [hR]; exact Nat.le_of_ble_eq_true rfl), (by rw [hR]; exact Nat.le_of_ble_eq_true rfl)⟩) rfl (Nat.le_of_ble_eq_true rfl) ⟨(by rw [hR]; exact Nat.le_of_ble_eq_true rfl), (by rw [hR]; exact Nat.le_of_ble_eq_true rfl)⟩ (fun z2 M1 => ?_)
  refine xv_if_ne (t := 16) hY dX12_meetIn_5 (by decide) rfl ?_ ?_
  · refine xv_iconst hY dX12_meetIn_16 rfl ?_
    exact xv_ireti hY hfl dX12_meetIn_17 hret (Nat.le_of_ble_eq_true rfl) (Nat.le_of_ble_eq_true rfl)
  · refine xv_aload_n rfl rfl hY dX12_meetIn_8 rfl ?_
    refine xv_iload_n rfl rfl hY dX12_meetIn_9 rfl ?_
    refine xv_callVI (ci := 12) (y := yX12_noWalker) (ws := wsX12_noWalker) (rm := rm_X12_noWalker) (mc := 0) (ms := 0) (n := 1) (av := [xi a2]) hY dX12_meetIn_10 rfl rfl rfl (by decide) (fun q hq => by rw [hfl]; exact S_X12_noWalker Y.1.2.1 a0 a2 M1 q hq) (cwV 1 hY.2.2.2.2.1 gX12_meetIn_X12_noWalker rfl rfl rfl (by decide +kernel) ⟨(by rw [hR]; exact Nat.le_of_ble_eq_true rfl), (by rw [hR]; exact Nat.le_of_ble_eq_true rfl)⟩) rfl (Nat.le_of_ble_eq_true rfl) ⟨(by rw [hR]; exact Nat.le_of_ble_eq_true rfl), (by rw [hR]; exact Nat.le_of_ble_eq_true rfl)⟩ (fun z4 M3 => ?_)
    refine xv_if_eq (t := 18) hY dX12_meetIn_13 (by decide) rfl ?_ ?_
    · refine xv_iload_n rfl rfl hY dX12_meetIn_18 rfl ?_
      refine xv_iload_n rfl rfl hY dX12_meetIn_19 rfl ?_
      refine xv_icmp_ne (t := 26) hY dX12_meetIn_20 (by decide) rfl ?_ ?_
      · refine xv_aload_n rfl rfl hY dX12_meetIn_26 rfl ?_
        refine xv_iload_n rfl rfl hY dX12_meetIn_27 rfl ?_
        refine xv_iconst hY dX12_meetIn_28 rfl ?_
        refine xv_callVI (ci := 12) (y := yX12_its) (ws := wsX12_its) (rm := rm_X12_its) (mc := 0) (ms := 0) (n := 2) (av := [xi a1, xi (0 : Int)]) hY dX12_meetIn_29 rfl rfl rfl (by decide) (fun q hq => by rw [hfl]; exact S_X12_its Y.1.2.1 a0 a1 (0 : Int) M3 q hq) (cwV 2 hY.2.2.2.2.1 gX12_meetIn_X12_its rfl rfl rfl (by decide +kernel) ⟨(by rw [hR]; exact Nat.le_of_ble_eq_true rfl), (by rw [hR]; exact Nat.le_of_ble_eq_true rfl)⟩) rfl (Nat.le_of_ble_eq_true rfl) ⟨(by rw [hR]; exact Nat.le_of_ble_eq_true rfl), (by rw [hR]; exact Nat.le_of_ble_eq_true rfl)⟩ (fun z6 M5 => ?_)
        refine xv_istore_n (L' := [some (xr a0), some (xi a1), some (xi a2), some (xi z6), none, none, none, none, none]) hY dX12_meetIn_32 rfl rfl (by rw [hnL]; decide) rfl rfl ?_
        refine xv_aload_n rfl rfl hY dX12_meetIn_33 rfl ?_
        refine xv_iload_n rfl rfl hY dX12_meetIn_34 rfl ?_
        refine xv_iconst hY dX12_meetIn_35 rfl ?_
        refine xv_callVI (ci := 12) (y := yX12_its) (ws := wsX12_its) (rm := rm_X12_its) (mc := 0) (ms := 0) (n := 2) (av := [xi a2, xi (0 : Int)]) hY dX12_meetIn_36 rfl rfl rfl (by decide) (fun q hq => by rw [hfl]; exact S_X12_its Y.1.2.1 a0 a2 (0 : Int) M5 q hq) (cwV 2 hY.2.2.2.2.1 gX12_meetIn_X12_its rfl rfl rfl (by decide +kernel) ⟨(by rw [hR]; exact Nat.le_of_ble_eq_true rfl), (by rw [hR]; exact Nat.le_of_ble_eq_true rfl)⟩) rfl (Nat.le_of_ble_eq_true rfl) ⟨(by rw [hR]; exact Nat.le_of_ble_eq_true rfl), (by rw [hR]; exact Nat.le_of_ble_eq_true rfl)⟩ (fun z8 M7 => ?_)
        refine xv_istore (L' := [some (xr a0), some (xi a1), some (xi a2), some (xi z6), some (xi z8), none, none, none, none]) hY dX12_meetIn_39 rfl (by rw [hnL]; decide) rfl rfl ?_
        refine xv_aload_n rfl rfl hY dX12_meetIn_41 rfl ?_
        refine xv_iload_n rfl rfl hY dX12_meetIn_42 rfl ?_
        refine xv_iconst hY dX12_meetIn_43 rfl ?_
        refine xv_callVI (ci := 12) (y := yX12_its) (ws := wsX12_its) (rm := rm_X12_its) (mc := 0) (ms := 0) (n := 2) (av := [xi a1, xi (1 : Int)]) hY dX12_meetIn_44 rfl rfl rfl (by decide) (fun q hq => by rw [hfl]; exact S_X12_its Y.1.2.1 a0 a1 (1 : Int) M7 q hq) (cwV 2 hY.2.2.2.2.1 gX12_meetIn_X12_its rfl rfl rfl (by decide +kernel) ⟨(by rw [hR]; exact Nat.le_of_ble_eq_true rfl), (by rw [hR]; exact Nat.le_of_ble_eq_true rfl)⟩) rfl (Nat.le_of_ble_eq_true rfl) ⟨(by rw [hR]; exact Nat.le_of_ble_eq_true rfl), (by rw [hR]; exact Nat.le_of_ble_eq_true rfl)⟩ (fun z10 M9 => ?_)
        refine xv_istore (L' := [some (xr a0), some (xi a1), some (xi a2), some (xi z6), some (xi z8), some (xi z10), none, none, none]) hY dX12_meetIn_47 rfl (by rw [hnL]; decide) rfl rfl ?_
        refine xv_aload_n rfl rfl hY dX12_meetIn_49 rfl ?_
        refine xv_iload_n rfl rfl hY dX12_meetIn_50 rfl ?_
        refine xv_iconst hY dX12_meetIn_51 rfl ?_
        refine xv_callVI (ci := 12) (y := yX12_its) (ws := wsX12_its) (rm := rm_X12_its) (mc := 0) (ms := 0) (n := 2) (av := [xi a2, xi (1 : Int)]) hY dX12_meetIn_52 rfl rfl rfl (by decide) (fun q hq => by rw [hfl]; exact S_X12_its Y.1.2.1 a0 a2 (1 : Int) M9 q hq) (cwV 2 hY.2.2.2.2.1 gX12_meetIn_X12_its rfl rfl rfl (by decide +kernel) ⟨(by rw [hR]; exact Nat.le_of_ble_eq_true rfl), (by rw [hR]; exact Nat.le_of_ble_eq_true rfl)⟩) rfl (Nat.le_of_ble_eq_true rfl) ⟨(by rw [hR]; exact Nat.le_of_ble_eq_true rfl), (by rw [hR]; exact Nat.le_of_ble_eq_true rfl)⟩ (fun z12 M11 => ?_)
        refine xv_istore (L' := [some (xr a0), some (xi a1), some (xi a2), some (xi z6), some (xi z8), some (xi z10), some (xi z12), none, none]) hY dX12_meetIn_55 rfl (by rw [hnL]; decide) rfl rfl ?_
        refine xv_iconst hY dX12_meetIn_57 rfl ?_
        refine xv_istore (L' := [some (xr a0), some (xi a1), some (xi a2), some (xi z6), some (xi z8), some (xi z10), some (xi z12), some (xi (0 : Int)), none]) hY dX12_meetIn_58 rfl (by rw [hnL]; decide) rfl rfl ?_
        refine xv_mk (L' := [none, none, none, some (xi z6), some (xi z8), some (xi z10), some (xi z12), some (xi (0 : Int)), none]) [false, false, false, true, true, true, true, true, false] rfl ?_
        refine xv_loop (σ := Int × Int × Int × Int × Int × xv_M) (fun x13 => [none, none, none, some (xi x13.1), some (xi x13.2.1), some (xi x13.2.2.1), some (xi x13.2.2.2.1), some (xi x13.2.2.2.2.1), none]) (fun x13 => x13.2.2.2.2.2) (fun f14 hf14 x13 => ?_) xv_fuel (z6, z8, z10, z12, (0 : Int), M11)
        refine xv_iload rfl hY dX12_meetIn_60 rfl ?_
        refine xv_sipush (by decide) hY dX12_meetIn_62 rfl ?_
        refine xv_icmp_gt (t := 142) hY dX12_meetIn_65 (by decide) rfl ?_ ?_
        · refine xv_bipush (by decide) hY dX12_meetIn_142 rfl ?_
          exact xv_ireti hY hfl dX12_meetIn_144 hret (Nat.le_of_ble_eq_true rfl) (Nat.le_of_ble_eq_true rfl)
        · refine xv_iload_n rfl rfl hY dX12_meetIn_68 rfl ?_
          refine xv_iload rfl hY dX12_meetIn_69 rfl ?_
          refine xv_icmp_ne (t := 77) hY dX12_meetIn_71 (by decide) rfl ?_ ?_
          · refine xv_iload_n rfl rfl hY dX12_meetIn_77 rfl ?_
            refine xv_iload rfl hY dX12_meetIn_78 rfl ?_
            refine xv_iadd hY dX12_meetIn_80 rfl ?_
            refine xv_istore (L' := [none, none, none, some (xi x13.1), some (xi x13.2.1), some (xi x13.2.2.1), some (xi x13.2.2.2.1), some (xi x13.2.2.2.2.1), some (xi (x13.1 + x13.2.2.1))]) hY dX12_meetIn_81 rfl (by rw [hnL]; decide) rfl rfl ?_
            refine xv_iload rfl hY dX12_meetIn_83 rfl ?_
            refine xv_callSI (y := yX12_turned) (ws := wsX12_turned) (rm := rm_X12_turned) (mc := 0) (ms := 0) (n := 1) (av := [xi (x13.1 + x13.2.2.1)]) hY dX12_meetIn_85 rfl rfl (fun q hq => by rw [hfl]; exact S_X12_turned Y.1.2.1 (x13.1 + x13.2.2.1) x13.2.2.2.2.2 q hq) (va_cwS 1 hY.2.2.2.2.1 gX12_meetIn_X12_turned rfl rfl rfl (by decide +kernel) ⟨(by rw [hR]; exact Nat.le_of_ble_eq_true rfl), (by rw [hR]; exact Nat.le_of_ble_eq_true rfl)⟩) rfl (Nat.le_of_ble_eq_true rfl) ⟨(by rw [hR]; exact Nat.le_of_ble_eq_true rfl), (by rw [hR]; exact Nat.le_of_ble_eq_true rfl)⟩ (fun z16 M15 => ?_)
            refine xv_istore_n (L' := [none, none, none, some (xi z16), some (xi x13.2.1), some (xi x13.2.2.1), some (xi x13.2.2.2.1), some (xi x13.2.2.2.2.1), some (xi (x13.1 + x13.2.2.1))]) hY dX12_meetIn_88 rfl rfl (by rw [hnL]; decide) rfl rfl ?_
            refine xv_iload_n rfl rfl hY dX12_meetIn_89 rfl ?_
            refine xv_iload rfl hY dX12_meetIn_90 rfl ?_
            refine xv_join (α := Int) 103 (fun x17 => [none, none, none, some (xi z16), some (xi x13.2.1), none, some (xi x13.2.2.2.1), some (xi x13.2.2.2.2.1), none]) (fun x17 => [xi x17]) (fun x17 => M15) (fun x17 => ?_) (fun j18 hj18 => ?_)
            · refine xv_istore (L' := [none, none, none, some (xi z16), some (xi x13.2.1), some (xi x17), some (xi x13.2.2.2.1), some (xi x13.2.2.2.2.1), none]) hY dX12_meetIn_103 rfl (by rw [hnL]; decide) rfl rfl ?_
              refine xv_iload rfl hY dX12_meetIn_105 rfl ?_
              refine xv_iload rfl hY dX12_meetIn_107 rfl ?_
              refine xv_iadd hY dX12_meetIn_109 rfl ?_
              refine xv_istore (L' := [none, none, none, some (xi z16), some (xi x13.2.1), some (xi x17), some (xi x13.2.2.2.1), some (xi x13.2.2.2.2.1), some (xi (x13.2.1 + x13.2.2.2.1))]) hY dX12_meetIn_110 rfl (by rw [hnL]; decide) rfl rfl ?_
              refine xv_iload rfl hY dX12_meetIn_112 rfl ?_
              refine xv_callSI (y := yX12_turned) (ws := wsX12_turned) (rm := rm_X12_turned) (mc := 0) (ms := 0) (n := 1) (av := [xi (x13.2.1 + x13.2.2.2.1)]) hY dX12_meetIn_114 rfl rfl (fun q hq => by rw [hfl]; exact S_X12_turned Y.1.2.1 (x13.2.1 + x13.2.2.2.1) M15 q hq) (va_cwS 1 hY.2.2.2.2.1 gX12_meetIn_X12_turned rfl rfl rfl (by decide +kernel) ⟨(by rw [hR]; exact Nat.le_of_ble_eq_true rfl), (by rw [hR]; exact Nat.le_of_ble_eq_true rfl)⟩) rfl (Nat.le_of_ble_eq_true rfl) ⟨(by rw [hR]; exact Nat.le_of_ble_eq_true rfl), (by rw [hR]; exact Nat.le_of_ble_eq_true rfl)⟩ (fun z20 M19 => ?_)
              refine xv_istore (L' := [none, none, none, some (xi z16), some (xi z20), some (xi x17), some (xi x13.2.2.2.1), some (xi x13.2.2.2.2.1), some (xi (x13.2.1 + x13.2.2.2.1))]) hY dX12_meetIn_117 rfl (by rw [hnL]; decide) rfl rfl ?_
              refine xv_iload rfl hY dX12_meetIn_119 rfl ?_
              refine xv_iload rfl hY dX12_meetIn_121 rfl ?_
              refine xv_join (α := Int) 134 (fun x21 => [none, none, none, some (xi z16), some (xi z20), some (xi x17), none, some (xi x13.2.2.2.2.1), none]) (fun x21 => [xi x21]) (fun x21 => M19) (fun x21 => ?_) (fun j22 hj22 => ?_)
              · refine xv_istore (L' := [none, none, none, some (xi z16), some (xi z20), some (xi x17), some (xi x21), some (xi x13.2.2.2.2.1), none]) hY dX12_meetIn_134 rfl (by rw [hnL]; decide) rfl rfl ?_
                refine xv_iinc (L' := [none, none, none, some (xi z16), some (xi z20), some (xi x17), some (xi x21), some (xi (x13.2.2.2.2.1 + 1)), none]) hY dX12_meetIn_136 rfl (by rw [hnL]; decide) rfl rfl rfl ?_
                refine xv_goto (pc' := 60) hY dX12_meetIn_139 (by decide) ?_
                exact xv_mk (L' := [none, none, none, some (xi z16), some (xi z20), some (xi x17), some (xi x21), some (xi (x13.2.2.2.2.1 + 1)), none]) [false, false, false, true, true, true, true, true, false] rfl (hf14 (z16, z20, x17, x21, (x13.2.2.2.2.1 + 1), M19))
              · refine xv_icmp_ne (t := 131) hY dX12_meetIn_123 (by decide) rfl ?_ ?_
                · refine xv_iload rfl hY dX12_meetIn_131 rfl ?_
                  refine xv_ineg hY dX12_meetIn_133 rfl ?_
                  exact xv_mk (L' := [none, none, none, some (xi z16), some (xi z20), some (xi x17), none, some (xi x13.2.2.2.2.1), none]) [false, false, false, true, true, true, false, true, false] rfl (hj22 (-x13.2.2.2.1))
                · refine xv_iload rfl hY dX12_meetIn_126 rfl ?_
                  refine xv_goto (pc' := 134) hY dX12_meetIn_128 (by decide) ?_
                  exact xv_mk (L' := [none, none, none, some (xi z16), some (xi z20), some (xi x17), none, some (xi x13.2.2.2.2.1), none]) [false, false, false, true, true, true, false, true, false] rfl (hj22 x13.2.2.2.1)
            · refine xv_icmp_ne (t := 100) hY dX12_meetIn_92 (by decide) rfl ?_ ?_
              · refine xv_iload rfl hY dX12_meetIn_100 rfl ?_
                refine xv_ineg hY dX12_meetIn_102 rfl ?_
                exact xv_mk (L' := [none, none, none, some (xi z16), some (xi x13.2.1), none, some (xi x13.2.2.2.1), some (xi x13.2.2.2.2.1), none]) [false, false, false, true, true, false, true, true, false] rfl (hj18 (-x13.2.2.1))
              · refine xv_iload rfl hY dX12_meetIn_95 rfl ?_
                refine xv_goto (pc' := 103) hY dX12_meetIn_97 (by decide) ?_
                exact xv_mk (L' := [none, none, none, some (xi z16), some (xi x13.2.1), none, some (xi x13.2.2.2.1), some (xi x13.2.2.2.2.1), none]) [false, false, false, true, true, false, true, true, false] rfl (hj18 x13.2.2.1)
          · refine xv_iload rfl hY dX12_meetIn_74 rfl ?_
            exact xv_ireti hY hfl dX12_meetIn_76 hret (Nat.le_of_ble_eq_true rfl) (Nat.le_of_ble_eq_true rfl)
      · refine xv_bipush (by decide) hY dX12_meetIn_23 rfl ?_
        exact xv_ireti hY hfl dX12_meetIn_25 hret (Nat.le_of_ble_eq_true rfl) (Nat.le_of_ble_eq_true rfl)
    · refine xv_iconst hY dX12_meetIn_16 rfl ?_
      exact xv_ireti hY hfl dX12_meetIn_17 hret (Nat.le_of_ble_eq_true rfl) (Nat.le_of_ble_eq_true rfl)
set_option maxHeartbeats 4000000 in
set_option maxRecDepth 100000 in
theorem S_X12_event (l : Launch) (a0 : Nat) (a1 : Int) (a2 : Int) (M : xv_M) (q : Int × xv_M) (h : D_X12_event a0 a1 a2 M = some q) : xv_Met l yX12_event wsX12_event rm_X12_event 0 0 false [xr a0, xi a1, xi a2] M (xv_qI false q) := by
  refine xv_enter (cc := cX12_event) (nL := 3) (ret := (some .int)) rfl (by decide +kernel) (Nat.le_of_ble_eq_true rfl) h ?_
  intro Y hY0 hl hR hnL hfl hret hnm0
  have hY : xv_ok Y cX12_event wsX12_event RX12 := hY0
  have hin12 : ∀ w ∈ u_ws RX12 TX12 18, w ∈ wsX12_event := fun _ h => List.mem_cons_of_mem _ (List.mem_append_right _ h)
  unfold D_X12_event
  refine xv_mk (L' := [some (xr a0), some (xi a1), some (xi a2)]) [true, true, true] rfl ?_
  refine xv_iload_n rfl rfl hY dX12_event_0 rfl ?_
  refine xv_if_lt (t := 13) hY dX12_event_1 (by decide) rfl ?_ ?_
  · refine xv_bipush (by decide) hY dX12_event_13 rfl ?_
    exact xv_ireti hY hfl dX12_event_15 hret (Nat.le_of_ble_eq_true rfl) (Nat.le_of_ble_eq_true rfl)
  · refine xv_iload_n rfl rfl hY dX12_event_4 rfl ?_
    refine xv_iconst hY dX12_event_5 rfl ?_
    refine xv_iconst hY dX12_event_6 rfl ?_
    refine xv_callSI (y := yX12_in) (ws := wsX12_in) (rm := rm_X12_in) (mc := 0) (ms := 0) (n := 3) (av := [xi a2, xi (0 : Int), xi (3 : Int)]) hY dX12_event_7 rfl rfl (fun q hq => by rw [hfl]; exact S_X12_in Y.1.2.1 a2 (0 : Int) (3 : Int) M q hq) (va_cwS 3 hY.2.2.2.2.1 gX12_event_X12_in rfl rfl rfl (by decide +kernel) ⟨(by rw [hR]; exact Nat.le_of_ble_eq_true rfl), (by rw [hR]; exact Nat.le_of_ble_eq_true rfl)⟩) rfl (Nat.le_of_ble_eq_true rfl) ⟨(by rw [hR]; exact Nat.le_of_ble_eq_true rfl), (by rw [hR]; exact Nat.le_of_ble_eq_true rfl)⟩ (fun z2 M1 => ?_)
    refine xv_if_ne (t := 16) hY dX12_event_10 (by decide) rfl ?_ ?_
    · refine xv_iload_n rfl rfl hY dX12_event_16 rfl ?_
      refine xv_aload_n rfl rfl hY dX12_event_17 rfl ?_
      refine xv_getP (ci := 12) (j := 0) hY dX12_event_18 rfl rfl rfl (by decide) hin12 (by decide) rfl (List.mem_of_getElem? (i := 1) rfl) (fun v3 => ?_)
      refine xv_iconst hY dX12_event_21 rfl ?_
      refine xv_iald hY dX12_event_22 rfl (fun v4 => ?_)
      refine xv_icmp_ge (t := 52) hY dX12_event_23 (by decide) rfl ?_ ?_
      · refine xv_bipush (by decide) hY dX12_event_52 rfl ?_
        exact xv_ireti hY hfl dX12_event_54 hret (Nat.le_of_ble_eq_true rfl) (Nat.le_of_ble_eq_true rfl)
      · refine xv_aload_n rfl rfl hY dX12_event_26 rfl ?_
        refine xv_getP (ci := 12) (j := 0) hY dX12_event_27 rfl rfl rfl (by decide) hin12 (by decide) rfl (List.mem_of_getElem? (i := 1) rfl) (fun v5 => ?_)
        refine xv_sipush (by decide) hY dX12_event_30 rfl ?_
        refine xv_iconst hY dX12_event_33 rfl ?_
        refine xv_aload_n rfl rfl hY dX12_event_34 rfl ?_
        refine xv_getP (ci := 12) (j := 0) hY dX12_event_35 rfl rfl rfl (by decide) hin12 (by decide) rfl (List.mem_of_getElem? (i := 1) rfl) (fun v6 => ?_)
        refine xv_iconst hY dX12_event_38 rfl ?_
        refine xv_iald hY dX12_event_39 rfl (fun v7 => ?_)
        refine xv_iconst hY dX12_event_40 rfl ?_
        refine xv_isub hY dX12_event_41 rfl ?_
        refine xv_iload_n rfl rfl hY dX12_event_42 rfl ?_
        refine xv_isub hY dX12_event_43 rfl ?_
        refine xv_imul hY dX12_event_44 rfl ?_
        refine xv_iadd hY dX12_event_45 rfl ?_
        refine xv_iload_n rfl rfl hY dX12_event_46 rfl ?_
        refine xv_iadd hY dX12_event_47 rfl ?_
        refine xv_iald hY dX12_event_48 rfl (fun v8 => ?_)
        refine xv_goto (pc' := 54) hY dX12_event_49 (by decide) ?_
        exact xv_ireti hY hfl dX12_event_54 hret (Nat.le_of_ble_eq_true rfl) (Nat.le_of_ble_eq_true rfl)
    · refine xv_bipush (by decide) hY dX12_event_13 rfl ?_
      exact xv_ireti hY hfl dX12_event_15 hret (Nat.le_of_ble_eq_true rfl) (Nat.le_of_ble_eq_true rfl)
set_option maxHeartbeats 4000000 in
set_option maxRecDepth 100000 in
theorem S_X12_pairs (l : Launch) (a0 : Nat) (M : xv_M) (q : Int × xv_M) (h : D_X12_pairs a0 M = some q) : xv_Met l yX12_pairs wsX12_pairs rm_X12_pairs 0 0 false [xr a0] M (xv_qI false q) := by
  refine xv_enter (cc := cX12_pairs) (nL := 4) (ret := (some .int)) rfl (by decide +kernel) (Nat.le_of_ble_eq_true rfl) h ?_
  intro Y hY0 hl hR hnL hfl hret hnm0
  have hY : xv_ok Y cX12_pairs wsX12_pairs RX12 := hY0
  have hin12 : ∀ w ∈ u_ws RX12 TX12 18, w ∈ wsX12_pairs := fun _ h => List.mem_cons_of_mem _ (List.mem_append_right _ h)
  unfold D_X12_pairs
  refine xv_mk (L' := [some (xr a0), none, none, none]) [true, true, true, true] rfl ?_
  refine xv_iconst hY dX12_pairs_0 rfl ?_
  refine xv_istore_n (L' := [some (xr a0), some (xi (0 : Int)), none, none]) hY dX12_pairs_1 rfl rfl (by rw [hnL]; decide) rfl rfl ?_
  refine xv_iconst hY dX12_pairs_2 rfl ?_
  refine xv_istore_n (L' := [some (xr a0), some (xi (0 : Int)), some (xi (0 : Int)), none]) hY dX12_pairs_3 rfl rfl (by rw [hnL]; decide) rfl rfl ?_
  refine xv_mk (L' := [some (xr a0), some (xi (0 : Int)), some (xi (0 : Int)), none]) [true, true, true, false] rfl ?_
  refine xv_loop (σ := Int × Int × xv_M) (fun x1 => [some (xr a0), some (xi x1.1), some (xi x1.2.1), none]) (fun x1 => x1.2.2) (fun f2 hf2 x1 => ?_) xv_fuel ((0 : Int), (0 : Int), M)
  refine xv_iload_n rfl rfl hY dX12_pairs_4 rfl ?_
  refine xv_aload_n rfl rfl hY dX12_pairs_5 rfl ?_
  refine xv_getP (ci := 12) (j := 0) hY dX12_pairs_6 rfl rfl rfl (by decide) hin12 (by decide) rfl (List.mem_of_getElem? (i := 1) rfl) (fun v3 => ?_)
  refine xv_iconst hY dX12_pairs_9 rfl ?_
  refine xv_iald hY dX12_pairs_10 rfl (fun v4 => ?_)
  refine xv_icmp_ge (t := 87) hY dX12_pairs_11 (by decide) rfl ?_ ?_
  · refine xv_iload_n rfl rfl hY dX12_pairs_87 rfl ?_
    exact xv_ireti hY hfl dX12_pairs_88 hret (Nat.le_of_ble_eq_true rfl) (Nat.le_of_ble_eq_true rfl)
  · refine xv_iconst hY dX12_pairs_14 rfl ?_
    refine xv_istore_n (L' := [some (xr a0), some (xi x1.1), some (xi x1.2.1), some (xi (0 : Int))]) hY dX12_pairs_15 rfl rfl (by rw [hnL]; decide) rfl rfl ?_
    refine xv_mk (L' := [some (xr a0), some (xi x1.1), some (xi x1.2.1), some (xi (0 : Int))]) [true, true, true, true] rfl ?_
    refine xv_loop (σ := Int × Int × xv_M) (fun x5 => [some (xr a0), some (xi x5.1), some (xi x1.2.1), some (xi x5.2.1)]) (fun x5 => x5.2.2) (fun f6 hf6 x5 => ?_) xv_fuel (x1.1, (0 : Int), x1.2.2)
    refine xv_iload_n rfl rfl hY dX12_pairs_16 rfl ?_
    refine xv_iload_n rfl rfl hY dX12_pairs_17 rfl ?_
    refine xv_icmp_ge (t := 81) hY dX12_pairs_18 (by decide) rfl ?_ ?_
    · refine xv_iinc (L' := [some (xr a0), some (xi x5.1), some (xi (x1.2.1 + 1)), some (xi x5.2.1)]) hY dX12_pairs_81 rfl (by rw [hnL]; decide) rfl rfl rfl ?_
      refine xv_goto (pc' := 4) hY dX12_pairs_84 (by decide) ?_
      exact xv_mk (L' := [some (xr a0), some (xi x5.1), some (xi (x1.2.1 + 1)), none]) [true, true, true, false] rfl (hf2 (x5.1, (x1.2.1 + 1), x5.2.2))
    · refine xv_iload_n rfl rfl hY dX12_pairs_21 rfl ?_
      refine xv_aload_n rfl rfl hY dX12_pairs_22 rfl ?_
      refine xv_iload_n rfl rfl hY dX12_pairs_23 rfl ?_
      refine xv_callVI (ci := 12) (y := yX12_isThere) (ws := wsX12_isThere) (rm := rm_X12_isThere) (mc := 0) (ms := 0) (n := 1) (av := [xi x1.2.1]) hY dX12_pairs_24 rfl rfl rfl (by decide) (fun q hq => by rw [hfl]; exact S_X12_isThere Y.1.2.1 a0 x1.2.1 x5.2.2 q hq) (cwV 1 hY.2.2.2.2.1 gX12_pairs_X12_isThere rfl rfl rfl (by decide +kernel) ⟨(by rw [hR]; exact Nat.le_of_ble_eq_true rfl), (by rw [hR]; exact Nat.le_of_ble_eq_true rfl)⟩) rfl (Nat.le_of_ble_eq_true rfl) ⟨(by rw [hR]; exact Nat.le_of_ble_eq_true rfl), (by rw [hR]; exact Nat.le_of_ble_eq_true rfl)⟩ (fun z8 M7 => ?_)
      refine xv_join (α := Int × Int × xv_M) 73 (fun x9 => [some (xr a0), none, some (xi x1.2.1), some (xi x5.2.1)]) (fun x9 => [xi x9.2.1, xi x9.1]) (fun x9 => x9.2.2) (fun x9 => ?_) (fun j10 hj10 => ?_)
      · refine xv_iadd hY dX12_pairs_73 rfl ?_
        refine xv_istore_n (L' := [some (xr a0), some (xi (x9.1 + x9.2.1)), some (xi x1.2.1), some (xi x5.2.1)]) hY dX12_pairs_74 rfl rfl (by rw [hnL]; decide) rfl rfl ?_
        refine xv_iinc (L' := [some (xr a0), some (xi (x9.1 + x9.2.1)), some (xi x1.2.1), some (xi (x5.2.1 + 1))]) hY dX12_pairs_75 rfl (by rw [hnL]; decide) rfl rfl rfl ?_
        refine xv_goto (pc' := 16) hY dX12_pairs_78 (by decide) ?_
        exact xv_mk (L' := [some (xr a0), some (xi (x9.1 + x9.2.1)), some (xi x1.2.1), some (xi (x5.2.1 + 1))]) [true, true, true, true] rfl (hf6 ((x9.1 + x9.2.1), (x5.2.1 + 1), x9.2.2))
      · refine xv_join (α := Int × xv_M) 72 (fun x11 => [some (xr a0), none, some (xi x1.2.1), some (xi x5.2.1)]) (fun x11 => [xi x11.1]) (fun x11 => x11.2) (fun x11 => ?_) (fun j12 hj12 => ?_)
        · refine xv_iconst hY dX12_pairs_72 rfl ?_
          exact xv_mk (L' := [some (xr a0), none, some (xi x1.2.1), some (xi x5.2.1)]) [true, false, true, true] rfl (hj10 (x11.1, (0 : Int), x11.2))
        · refine xv_if_eq (t := 72) hY dX12_pairs_27 (by decide) rfl ?_ ?_
          · exact xv_mk (L' := [some (xr a0), none, some (xi x1.2.1), some (xi x5.2.1)]) [true, false, true, true] rfl (hj12 (x5.1, M7))
          · refine xv_aload_n rfl rfl hY dX12_pairs_30 rfl ?_
            refine xv_iload_n rfl rfl hY dX12_pairs_31 rfl ?_
            refine xv_callVI (ci := 12) (y := yX12_isThere) (ws := wsX12_isThere) (rm := rm_X12_isThere) (mc := 0) (ms := 0) (n := 1) (av := [xi x5.2.1]) hY dX12_pairs_32 rfl rfl rfl (by decide) (fun q hq => by rw [hfl]; exact S_X12_isThere Y.1.2.1 a0 x5.2.1 M7 q hq) (cwV 1 hY.2.2.2.2.1 gX12_pairs_X12_isThere rfl rfl rfl (by decide +kernel) ⟨(by rw [hR]; exact Nat.le_of_ble_eq_true rfl), (by rw [hR]; exact Nat.le_of_ble_eq_true rfl)⟩) rfl (Nat.le_of_ble_eq_true rfl) ⟨(by rw [hR]; exact Nat.le_of_ble_eq_true rfl), (by rw [hR]; exact Nat.le_of_ble_eq_true rfl)⟩ (fun z14 M13 => ?_)
            refine xv_if_eq (t := 72) hY dX12_pairs_35 (by decide) rfl ?_ ?_
            · exact xv_mk (L' := [some (xr a0), none, some (xi x1.2.1), some (xi x5.2.1)]) [true, false, true, true] rfl (hj12 (x5.1, M13))
            · refine xv_aload_n rfl rfl hY dX12_pairs_38 rfl ?_
              refine xv_iload_n rfl rfl hY dX12_pairs_39 rfl ?_
              refine xv_iconst hY dX12_pairs_40 rfl ?_
              refine xv_callVI (ci := 12) (y := yX12_of) (ws := wsX12_of) (rm := rm_X12_of) (mc := 0) (ms := 0) (n := 2) (av := [xi x1.2.1, xi (2 : Int)]) hY dX12_pairs_41 rfl rfl rfl (by decide) (fun q hq => by rw [hfl]; exact S_X12_of Y.1.2.1 a0 x1.2.1 (2 : Int) M13 q hq) (cwV 2 hY.2.2.2.2.1 gX12_pairs_X12_of rfl rfl rfl (by decide +kernel) ⟨(by rw [hR]; exact Nat.le_of_ble_eq_true rfl), (by rw [hR]; exact Nat.le_of_ble_eq_true rfl)⟩) rfl (Nat.le_of_ble_eq_true rfl) ⟨(by rw [hR]; exact Nat.le_of_ble_eq_true rfl), (by rw [hR]; exact Nat.le_of_ble_eq_true rfl)⟩ (fun z16 M15 => ?_)
              refine xv_aload_n rfl rfl hY dX12_pairs_44 rfl ?_
              refine xv_iload_n rfl rfl hY dX12_pairs_45 rfl ?_
              refine xv_iconst hY dX12_pairs_46 rfl ?_
              refine xv_callVI (ci := 12) (y := yX12_of) (ws := wsX12_of) (rm := rm_X12_of) (mc := 0) (ms := 0) (n := 2) (av := [xi x5.2.1, xi (3 : Int)]) hY dX12_pairs_47 rfl rfl rfl (by decide) (fun q hq => by rw [hfl]; exact S_X12_of Y.1.2.1 a0 x5.2.1 (3 : Int) M15 q hq) (cwV 2 hY.2.2.2.2.1 gX12_pairs_X12_of rfl rfl rfl (by decide +kernel) ⟨(by rw [hR]; exact Nat.le_of_ble_eq_true rfl), (by rw [hR]; exact Nat.le_of_ble_eq_true rfl)⟩) rfl (Nat.le_of_ble_eq_true rfl) ⟨(by rw [hR]; exact Nat.le_of_ble_eq_true rfl), (by rw [hR]; exact Nat.le_of_ble_eq_true rfl)⟩ (fun z18 M17 => ?_)
              refine xv_icmp_gt (t := 72) hY dX12_pairs_50 (by decide) rfl ?_ ?_
              · exact xv_mk (L' := [some (xr a0), none, some (xi x1.2.1), some (xi x5.2.1)]) [true, false, true, true] rfl (hj12 (x5.1, M17))
              · refine xv_aload_n rfl rfl hY dX12_pairs_53 rfl ?_
                refine xv_iload_n rfl rfl hY dX12_pairs_54 rfl ?_
                refine xv_iconst hY dX12_pairs_55 rfl ?_
                refine xv_callVI (ci := 12) (y := yX12_of) (ws := wsX12_of) (rm := rm_X12_of) (mc := 0) (ms := 0) (n := 2) (av := [xi x5.2.1, xi (2 : Int)]) hY dX12_pairs_56 rfl rfl rfl (by decide) (fun q hq => by rw [hfl]; exact S_X12_of Y.1.2.1 a0 x5.2.1 (2 : Int) M17 q hq) (cwV 2 hY.2.2.2.2.1 gX12_pairs_X12_of rfl rfl rfl (by decide +kernel) ⟨(by rw [hR]; exact Nat.le_of_ble_eq_true rfl), (by rw [hR]; exact Nat.le_of_ble_eq_true rfl)⟩) rfl (Nat.le_of_ble_eq_true rfl) ⟨(by rw [hR]; exact Nat.le_of_ble_eq_true rfl), (by rw [hR]; exact Nat.le_of_ble_eq_true rfl)⟩ (fun z20 M19 => ?_)
                refine xv_aload_n rfl rfl hY dX12_pairs_59 rfl ?_
                refine xv_iload_n rfl rfl hY dX12_pairs_60 rfl ?_
                refine xv_iconst hY dX12_pairs_61 rfl ?_
                refine xv_callVI (ci := 12) (y := yX12_of) (ws := wsX12_of) (rm := rm_X12_of) (mc := 0) (ms := 0) (n := 2) (av := [xi x1.2.1, xi (3 : Int)]) hY dX12_pairs_62 rfl rfl rfl (by decide) (fun q hq => by rw [hfl]; exact S_X12_of Y.1.2.1 a0 x1.2.1 (3 : Int) M19 q hq) (cwV 2 hY.2.2.2.2.1 gX12_pairs_X12_of rfl rfl rfl (by decide +kernel) ⟨(by rw [hR]; exact Nat.le_of_ble_eq_true rfl), (by rw [hR]; exact Nat.le_of_ble_eq_true rfl)⟩) rfl (Nat.le_of_ble_eq_true rfl) ⟨(by rw [hR]; exact Nat.le_of_ble_eq_true rfl), (by rw [hR]; exact Nat.le_of_ble_eq_true rfl)⟩ (fun z22 M21 => ?_)
                refine xv_icmp_gt (t := 72) hY dX12_pairs_65 (by decide) rfl ?_ ?_
                · exact xv_mk (L' := [some (xr a0), none, some (xi x1.2.1), some (xi x5.2.1)]) [true, false, true, true] rfl (hj12 (x5.1, M21))
                · refine xv_iconst hY dX12_pairs_68 rfl ?_
                  refine xv_goto (pc' := 73) hY dX12_pairs_69 (by decide) ?_
                  exact xv_mk (L' := [some (xr a0), none, some (xi x1.2.1), some (xi x5.2.1)]) [true, false, true, true] rfl (hj10 (x5.1, (1 : Int), M21))
set_option maxHeartbeats 4000000 in
set_option maxRecDepth 100000 in
theorem S_X12_visited (l : Launch) (a0 : Nat) (M : xv_M) (q : Int × xv_M) (h : D_X12_visited a0 M = some q) : xv_Met l yX12_visited wsX12_visited rm_X12_visited 0 0 false [xr a0] M (xv_qI false q) := by
  refine xv_enter (cc := cX12_visited) (nL := 3) (ret := (some .int)) rfl (by decide +kernel) (Nat.le_of_ble_eq_true rfl) h ?_
  intro Y hY0 hl hR hnL hfl hret hnm0
  have hY : xv_ok Y cX12_visited wsX12_visited RX12 := hY0
  have hin12 : ∀ w ∈ u_ws RX12 TX12 18, w ∈ wsX12_visited := fun _ h => List.mem_cons_of_mem _ (List.mem_append_right _ h)
  unfold D_X12_visited
  refine xv_mk (L' := [some (xr a0), none, none]) [true, true, true] rfl ?_
  refine xv_iconst hY dX12_visited_0 rfl ?_
  refine xv_istore_n (L' := [some (xr a0), some (xi (0 : Int)), none]) hY dX12_visited_1 rfl rfl (by rw [hnL]; decide) rfl rfl ?_
  refine xv_iconst hY dX12_visited_2 rfl ?_
  refine xv_istore_n (L' := [some (xr a0), some (xi (0 : Int)), some (xi (0 : Int))]) hY dX12_visited_3 rfl rfl (by rw [hnL]; decide) rfl rfl ?_
  refine xv_mk (L' := [some (xr a0), some (xi (0 : Int)), some (xi (0 : Int))]) [true, true, true] rfl ?_
  refine xv_loop (σ := Int × Int × xv_M) (fun x1 => [some (xr a0), some (xi x1.1), some (xi x1.2.1)]) (fun x1 => x1.2.2) (fun f2 hf2 x1 => ?_) xv_fuel ((0 : Int), (0 : Int), M)
  refine xv_iload_n rfl rfl hY dX12_visited_4 rfl ?_
  refine xv_aload_n rfl rfl hY dX12_visited_5 rfl ?_
  refine xv_getP (ci := 12) (j := 0) hY dX12_visited_6 rfl rfl rfl (by decide) hin12 (by decide) rfl (List.mem_of_getElem? (i := 1) rfl) (fun v3 => ?_)
  refine xv_iconst hY dX12_visited_9 rfl ?_
  refine xv_iald hY dX12_visited_10 rfl (fun v4 => ?_)
  refine xv_icmp_ge (t := 36) hY dX12_visited_11 (by decide) rfl ?_ ?_
  · refine xv_iload_n rfl rfl hY dX12_visited_36 rfl ?_
    exact xv_ireti hY hfl dX12_visited_37 hret (Nat.le_of_ble_eq_true rfl) (Nat.le_of_ble_eq_true rfl)
  · refine xv_iload_n rfl rfl hY dX12_visited_14 rfl ?_
    refine xv_aload_n rfl rfl hY dX12_visited_15 rfl ?_
    refine xv_iload_n rfl rfl hY dX12_visited_16 rfl ?_
    refine xv_callVI (ci := 12) (y := yX12_guests) (ws := wsX12_guests) (rm := rm_X12_guests) (mc := 0) (ms := 0) (n := 1) (av := [xi x1.2.1]) hY dX12_visited_17 rfl rfl rfl (by decide) (fun q hq => by rw [hfl]; exact S_X12_guests Y.1.2.1 a0 x1.2.1 x1.2.2 q hq) (cwV 1 hY.2.2.2.2.1 gX12_visited_X12_guests rfl rfl rfl (by decide +kernel) ⟨(by rw [hR]; exact Nat.le_of_ble_eq_true rfl), (by rw [hR]; exact Nat.le_of_ble_eq_true rfl)⟩) rfl (Nat.le_of_ble_eq_true rfl) ⟨(by rw [hR]; exact Nat.le_of_ble_eq_true rfl), (by rw [hR]; exact Nat.le_of_ble_eq_true rfl)⟩ (fun z6 M5 => ?_)
    refine xv_join (α := Int × Int) 28 (fun x7 => [some (xr a0), none, some (xi x1.2.1)]) (fun x7 => [xi x7.2, xi x7.1]) (fun x7 => M5) (fun x7 => ?_) (fun j8 hj8 => ?_)
    · refine xv_iadd hY dX12_visited_28 rfl ?_
      refine xv_istore_n (L' := [some (xr a0), some (xi (x7.1 + x7.2)), some (xi x1.2.1)]) hY dX12_visited_29 rfl rfl (by rw [hnL]; decide) rfl rfl ?_
      refine xv_iinc (L' := [some (xr a0), some (xi (x7.1 + x7.2)), some (xi (x1.2.1 + 1))]) hY dX12_visited_30 rfl (by rw [hnL]; decide) rfl rfl rfl ?_
      refine xv_goto (pc' := 4) hY dX12_visited_33 (by decide) ?_
      exact xv_mk (L' := [some (xr a0), some (xi (x7.1 + x7.2)), some (xi (x1.2.1 + 1))]) [true, true, true] rfl (hf2 ((x7.1 + x7.2), (x1.2.1 + 1), M5))
    · refine xv_if_le (t := 27) hY dX12_visited_20 (by decide) rfl ?_ ?_
      · refine xv_iconst hY dX12_visited_27 rfl ?_
        exact xv_mk (L' := [some (xr a0), none, some (xi x1.2.1)]) [true, false, true] rfl (hj8 (x1.1, (0 : Int)))
      · refine xv_iconst hY dX12_visited_23 rfl ?_
        refine xv_goto (pc' := 28) hY dX12_visited_24 (by decide) ?_
        exact xv_mk (L' := [some (xr a0), none, some (xi x1.2.1)]) [true, false, true] rfl (hj8 (x1.1, (1 : Int)))
set_option maxHeartbeats 4000000 in
set_option maxRecDepth 100000 in
theorem S_X12_different (l : Launch) (a0 : Nat) (a1 : Int) (M : xv_M) (q : Int × xv_M) (h : D_X12_different a0 a1 M = some q) : xv_Met l yX12_different wsX12_different rm_X12_different 0 0 false [xr a0, xi a1] M (xv_qI false q) := by
  refine xv_enter (cc := cX12_different) (nL := 6) (ret := (some .int)) rfl (by decide +kernel) (Nat.le_of_ble_eq_true rfl) h ?_
  intro Y hY0 hl hR hnL hfl hret hnm0
  have hY : xv_ok Y cX12_different wsX12_different RX12 := hY0
  have hin12 : ∀ w ∈ u_ws RX12 TX12 18, w ∈ wsX12_different := fun _ h => List.mem_cons_of_mem _ (List.mem_append_right _ h)
  unfold D_X12_different
  refine xv_mk (L' := [some (xr a0), some (xi a1), none, none, none, none]) [true, true, true, true, true, true] rfl ?_
  refine xv_iconst hY dX12_different_0 rfl ?_
  refine xv_istore_n (L' := [some (xr a0), some (xi a1), some (xi (0 : Int)), none, none, none]) hY dX12_different_1 rfl rfl (by rw [hnL]; decide) rfl rfl ?_
  refine xv_iconst hY dX12_different_2 rfl ?_
  refine xv_istore_n (L' := [some (xr a0), some (xi a1), some (xi (0 : Int)), some (xi (0 : Int)), none, none]) hY dX12_different_3 rfl rfl (by rw [hnL]; decide) rfl rfl ?_
  refine xv_mk (L' := [some (xr a0), some (xi a1), some (xi (0 : Int)), some (xi (0 : Int)), none, none]) [true, true, true, true, false, false] rfl ?_
  refine xv_loop (σ := Int × Int × xv_M) (fun x1 => [some (xr a0), some (xi a1), some (xi x1.1), some (xi x1.2.1), none, none]) (fun x1 => x1.2.2) (fun f2 hf2 x1 => ?_) xv_fuel ((0 : Int), (0 : Int), M)
  refine xv_iload_n rfl rfl hY dX12_different_4 rfl ?_
  refine xv_aload_n rfl rfl hY dX12_different_5 rfl ?_
  refine xv_getP (ci := 12) (j := 0) hY dX12_different_6 rfl rfl rfl (by decide) hin12 (by decide) rfl (List.mem_of_getElem? (i := 1) rfl) (fun v3 => ?_)
  refine xv_iconst hY dX12_different_9 rfl ?_
  refine xv_iald hY dX12_different_10 rfl (fun v4 => ?_)
  refine xv_icmp_ge (t := 92) hY dX12_different_11 (by decide) rfl ?_ ?_
  · refine xv_iload_n rfl rfl hY dX12_different_92 rfl ?_
    exact xv_ireti hY hfl dX12_different_93 hret (Nat.le_of_ble_eq_true rfl) (Nat.le_of_ble_eq_true rfl)
  · refine xv_aload_n rfl rfl hY dX12_different_14 rfl ?_
    refine xv_iload_n rfl rfl hY dX12_different_15 rfl ?_
    refine xv_callVI (ci := 12) (y := yX12_isThere) (ws := wsX12_isThere) (rm := rm_X12_isThere) (mc := 0) (ms := 0) (n := 1) (av := [xi x1.2.1]) hY dX12_different_16 rfl rfl rfl (by decide) (fun q hq => by rw [hfl]; exact S_X12_isThere Y.1.2.1 a0 x1.2.1 x1.2.2 q hq) (cwV 1 hY.2.2.2.2.1 gX12_different_X12_isThere rfl rfl rfl (by decide +kernel) ⟨(by rw [hR]; exact Nat.le_of_ble_eq_true rfl), (by rw [hR]; exact Nat.le_of_ble_eq_true rfl)⟩) rfl (Nat.le_of_ble_eq_true rfl) ⟨(by rw [hR]; exact Nat.le_of_ble_eq_true rfl), (by rw [hR]; exact Nat.le_of_ble_eq_true rfl)⟩ (fun z6 M5 => ?_)
    refine xv_istore (L' := [some (xr a0), some (xi a1), some (xi x1.1), some (xi x1.2.1), some (xi z6), none]) hY dX12_different_19 rfl (by rw [hnL]; decide) rfl rfl ?_
    refine xv_iconst hY dX12_different_21 rfl ?_
    refine xv_istore (L' := [some (xr a0), some (xi a1), some (xi x1.1), some (xi x1.2.1), some (xi z6), some (xi (0 : Int))]) hY dX12_different_22 rfl (by rw [hnL]; decide) rfl rfl ?_
    refine xv_mk (L' := [some (xr a0), some (xi a1), some (xi x1.1), some (xi x1.2.1), some (xi z6), some (xi (0 : Int))]) [true, true, true, true, true, true] rfl ?_
    refine xv_loop (σ := Int × Int × xv_M) (fun x7 => [some (xr a0), some (xi a1), some (xi x1.1), some (xi x1.2.1), some (xi x7.1), some (xi x7.2.1)]) (fun x7 => x7.2.2) (fun f8 hf8 x7 => ?_) xv_fuel (z6, (0 : Int), M5)
    refine xv_iload rfl hY dX12_different_24 rfl ?_
    refine xv_iload_n rfl rfl hY dX12_different_26 rfl ?_
    refine xv_join (α := Unit) 73 (fun x9 => [some (xr a0), some (xi a1), some (xi x1.1), some (xi x1.2.1), some (xi x7.1), none]) (fun x9 => []) (fun x9 => x7.2.2) (fun x9 => ?_) (fun j10 hj10 => ?_)
    · refine xv_iload_n rfl rfl hY dX12_different_73 rfl ?_
      refine xv_iload rfl hY dX12_different_74 rfl ?_
      refine xv_join (α := Int × Int) 84 (fun x11 => [some (xr a0), some (xi a1), none, some (xi x1.2.1), none, none]) (fun x11 => [xi x11.2, xi x11.1]) (fun x11 => x7.2.2) (fun x11 => ?_) (fun j12 hj12 => ?_)
      · refine xv_iadd hY dX12_different_84 rfl ?_
        refine xv_istore_n (L' := [some (xr a0), some (xi a1), some (xi (x11.1 + x11.2)), some (xi x1.2.1), none, none]) hY dX12_different_85 rfl rfl (by rw [hnL]; decide) rfl rfl ?_
        refine xv_iinc (L' := [some (xr a0), some (xi a1), some (xi (x11.1 + x11.2)), some (xi (x1.2.1 + 1)), none, none]) hY dX12_different_86 rfl (by rw [hnL]; decide) rfl rfl rfl ?_
        refine xv_goto (pc' := 4) hY dX12_different_89 (by decide) ?_
        exact xv_mk (L' := [some (xr a0), some (xi a1), some (xi (x11.1 + x11.2)), some (xi (x1.2.1 + 1)), none, none]) [true, true, true, true, false, false] rfl (hf2 ((x11.1 + x11.2), (x1.2.1 + 1), x7.2.2))
      · refine xv_if_eq (t := 83) hY dX12_different_76 (by decide) rfl ?_ ?_
        · refine xv_iconst hY dX12_different_83 rfl ?_
          exact xv_mk (L' := [some (xr a0), some (xi a1), none, some (xi x1.2.1), none, none]) [true, true, false, true, false, false] rfl (hj12 (x1.1, (0 : Int)))
        · refine xv_iconst hY dX12_different_79 rfl ?_
          refine xv_goto (pc' := 84) hY dX12_different_80 (by decide) ?_
          exact xv_mk (L' := [some (xr a0), some (xi a1), none, some (xi x1.2.1), none, none]) [true, true, false, true, false, false] rfl (hj12 (x1.1, (1 : Int)))
    · refine xv_icmp_ge (t := 73) hY dX12_different_27 (by decide) rfl ?_ ?_
      · exact xv_mk (L' := [some (xr a0), some (xi a1), some (xi x1.1), some (xi x1.2.1), some (xi x7.1), none]) [true, true, true, true, true, false] rfl (hj10 ())
      · refine xv_iload rfl hY dX12_different_30 rfl ?_
        refine xv_if_eq (t := 73) hY dX12_different_32 (by decide) rfl ?_ ?_
        · exact xv_mk (L' := [some (xr a0), some (xi a1), some (xi x1.1), some (xi x1.2.1), some (xi x7.1), none]) [true, true, true, true, true, false] rfl (hj10 ())
        · refine xv_aload_n rfl rfl hY dX12_different_35 rfl ?_
          refine xv_iload rfl hY dX12_different_36 rfl ?_
          refine xv_callVI (ci := 12) (y := yX12_isThere) (ws := wsX12_isThere) (rm := rm_X12_isThere) (mc := 0) (ms := 0) (n := 1) (av := [xi x7.2.1]) hY dX12_different_38 rfl rfl rfl (by decide) (fun q hq => by rw [hfl]; exact S_X12_isThere Y.1.2.1 a0 x7.2.1 x7.2.2 q hq) (cwV 1 hY.2.2.2.2.1 gX12_different_X12_isThere rfl rfl rfl (by decide +kernel) ⟨(by rw [hR]; exact Nat.le_of_ble_eq_true rfl), (by rw [hR]; exact Nat.le_of_ble_eq_true rfl)⟩) rfl (Nat.le_of_ble_eq_true rfl) ⟨(by rw [hR]; exact Nat.le_of_ble_eq_true rfl), (by rw [hR]; exact Nat.le_of_ble_eq_true rfl)⟩ (fun z14 M13 => ?_)
          refine xv_join (α := Int × xv_M) 65 (fun x15 => [some (xr a0), some (xi a1), some (xi x1.1), some (xi x1.2.1), none, some (xi x7.2.1)]) (fun x15 => [xi x15.1]) (fun x15 => x15.2) (fun x15 => ?_) (fun j16 hj16 => ?_)
          · refine xv_istore (L' := [some (xr a0), some (xi a1), some (xi x1.1), some (xi x1.2.1), some (xi x15.1), some (xi x7.2.1)]) hY dX12_different_65 rfl (by rw [hnL]; decide) rfl rfl ?_
            refine xv_iinc (L' := [some (xr a0), some (xi a1), some (xi x1.1), some (xi x1.2.1), some (xi x15.1), some (xi (x7.2.1 + 1))]) hY dX12_different_67 rfl (by rw [hnL]; decide) rfl rfl rfl ?_
            refine xv_goto (pc' := 24) hY dX12_different_70 (by decide) ?_
            exact xv_mk (L' := [some (xr a0), some (xi a1), some (xi x1.1), some (xi x1.2.1), some (xi x15.1), some (xi (x7.2.1 + 1))]) [true, true, true, true, true, true] rfl (hf8 (x15.1, (x7.2.1 + 1), x15.2))
          · refine xv_join (α := xv_M) 60 (fun x17 => [some (xr a0), some (xi a1), some (xi x1.1), some (xi x1.2.1), none, some (xi x7.2.1)]) (fun x17 => []) (fun x17 => x17) (fun x17 => ?_) (fun j18 hj18 => ?_)
            · refine xv_iconst hY dX12_different_60 rfl ?_
              refine xv_goto (pc' := 65) hY dX12_different_61 (by decide) ?_
              exact xv_mk (L' := [some (xr a0), some (xi a1), some (xi x1.1), some (xi x1.2.1), none, some (xi x7.2.1)]) [true, true, true, true, false, true] rfl (hj16 ((1 : Int), x17))
            · refine xv_if_eq (t := 60) hY dX12_different_41 (by decide) rfl ?_ ?_
              · exact xv_mk (L' := [some (xr a0), some (xi a1), some (xi x1.1), some (xi x1.2.1), none, some (xi x7.2.1)]) [true, true, true, true, false, true] rfl (hj18 M13)
              · refine xv_aload_n rfl rfl hY dX12_different_44 rfl ?_
                refine xv_iload rfl hY dX12_different_45 rfl ?_
                refine xv_iload_n rfl rfl hY dX12_different_47 rfl ?_
                refine xv_callVI (ci := 12) (y := yX12_of) (ws := wsX12_of) (rm := rm_X12_of) (mc := 0) (ms := 0) (n := 2) (av := [xi x7.2.1, xi a1]) hY dX12_different_48 rfl rfl rfl (by decide) (fun q hq => by rw [hfl]; exact S_X12_of Y.1.2.1 a0 x7.2.1 a1 M13 q hq) (cwV 2 hY.2.2.2.2.1 gX12_different_X12_of rfl rfl rfl (by decide +kernel) ⟨(by rw [hR]; exact Nat.le_of_ble_eq_true rfl), (by rw [hR]; exact Nat.le_of_ble_eq_true rfl)⟩) rfl (Nat.le_of_ble_eq_true rfl) ⟨(by rw [hR]; exact Nat.le_of_ble_eq_true rfl), (by rw [hR]; exact Nat.le_of_ble_eq_true rfl)⟩ (fun z20 M19 => ?_)
                refine xv_aload_n rfl rfl hY dX12_different_51 rfl ?_
                refine xv_iload_n rfl rfl hY dX12_different_52 rfl ?_
                refine xv_iload_n rfl rfl hY dX12_different_53 rfl ?_
                refine xv_callVI (ci := 12) (y := yX12_of) (ws := wsX12_of) (rm := rm_X12_of) (mc := 0) (ms := 0) (n := 2) (av := [xi x1.2.1, xi a1]) hY dX12_different_54 rfl rfl rfl (by decide) (fun q hq => by rw [hfl]; exact S_X12_of Y.1.2.1 a0 x1.2.1 a1 M19 q hq) (cwV 2 hY.2.2.2.2.1 gX12_different_X12_of rfl rfl rfl (by decide +kernel) ⟨(by rw [hR]; exact Nat.le_of_ble_eq_true rfl), (by rw [hR]; exact Nat.le_of_ble_eq_true rfl)⟩) rfl (Nat.le_of_ble_eq_true rfl) ⟨(by rw [hR]; exact Nat.le_of_ble_eq_true rfl), (by rw [hR]; exact Nat.le_of_ble_eq_true rfl)⟩ (fun z22 M21 => ?_)
                refine xv_icmp_eq (t := 64) hY dX12_different_57 (by decide) rfl ?_ ?_
                · refine xv_iconst hY dX12_different_64 rfl ?_
                  exact xv_mk (L' := [some (xr a0), some (xi a1), some (xi x1.1), some (xi x1.2.1), none, some (xi x7.2.1)]) [true, true, true, true, false, true] rfl (hj16 ((0 : Int), M21))
                · exact xv_mk (L' := [some (xr a0), some (xi a1), some (xi x1.1), some (xi x1.2.1), none, some (xi x7.2.1)]) [true, true, true, true, false, true] rfl (hj18 M21)
