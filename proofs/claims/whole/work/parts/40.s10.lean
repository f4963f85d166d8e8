set_option maxHeartbeats 4000000 in
set_option maxRecDepth 100000 in
theorem S_X12_count (l : Launch) (a0 : Nat) (a1 : Int) (M : xv_M) (q : Int × xv_M) (h : D_X12_count a0 a1 M = some q) : xv_Met l yX12_count wsX12_count rm_X12_count 0 0 false [xr a0, xi a1] M (xv_qI false q) := by
  refine xv_enter (cc := cX12_count) (nL := 2) (ret := (some .int)) rfl (by decide +kernel) (Nat.le_of_ble_eq_true rfl) h ?_
  intro Y hY0 hl hR hnL hfl hret hnm0
  have hY : xv_ok Y cX12_count wsX12_count RX12 := hY0
  have hin12 : ∀ w ∈ u_ws RX12 TX12 18, w ∈ wsX12_count := fun _ h => List.mem_cons_of_mem _ (List.mem_append_right _ h)
  unfold D_X12_count
  refine xv_mk (L' := [some (xr a0), some (xi a1)]) [true, true] rfl ?_
  refine xv_iload_n rfl rfl hY dX12_count_0 rfl ?_
  refine xv_byg (fun hz => ?_)
  refine xv_byif (fun h0 => ?_) (fun h0 => ?_)
  · refine xv_swIn (off := 59) (t := 60) hY dX12_count_1 (xv_inb_in hz) (by omega) (by omega) (by rw [h0]; rfl) (by decide) ?_
    refine xv_aload_n rfl rfl hY dX12_count_60 rfl ?_
    refine xv_getP (ci := 12) (j := 0) hY dX12_count_61 rfl rfl rfl (by decide) hin12 (by decide) rfl (List.mem_of_getElem? (i := 1) rfl) (fun v21 => ?_)
    refine xv_iconst hY dX12_count_64 rfl ?_
    refine xv_iald hY dX12_count_65 rfl (fun v22 => ?_)
    exact xv_ireti hY hfl dX12_count_66 hret (Nat.le_of_ble_eq_true rfl) (Nat.le_of_ble_eq_true rfl)
  · refine xv_byif (fun h1 => ?_) (fun h1 => ?_)
    · refine xv_swIn (off := 66) (t := 67) hY dX12_count_1 (xv_inb_in hz) (by omega) (by omega) (by rw [h1]; rfl) (by decide) ?_
      refine xv_aload_n rfl rfl hY dX12_count_67 rfl ?_
      refine xv_getP (ci := 12) (j := 0) hY dX12_count_68 rfl rfl rfl (by decide) hin12 (by decide) rfl (List.mem_of_getElem? (i := 1) rfl) (fun v19 => ?_)
      refine xv_iconst hY dX12_count_71 rfl ?_
      refine xv_iald hY dX12_count_72 rfl (fun v20 => ?_)
      exact xv_ireti hY hfl dX12_count_73 hret (Nat.le_of_ble_eq_true rfl) (Nat.le_of_ble_eq_true rfl)
    · refine xv_byif (fun h2 => ?_) (fun h2 => ?_)
      · refine xv_swIn (off := 73) (t := 74) hY dX12_count_1 (xv_inb_in hz) (by omega) (by omega) (by rw [h2]; rfl) (by decide) ?_
        refine xv_aload_n rfl rfl hY dX12_count_74 rfl ?_
        refine xv_callVI (ci := 12) (y := yX12_there) (ws := wsX12_there) (rm := rm_X12_there) (mc := 0) (ms := 0) (n := 0) (av := []) hY dX12_count_75 rfl rfl rfl (by decide) (fun q hq => by rw [hfl]; exact S_X12_there Y.1.2.1 a0 M q hq) (cwV 0 hY.2.2.2.2.1 gX12_count_X12_there rfl rfl rfl (by decide +kernel) ⟨(by rw [hR]; exact Nat.le_of_ble_eq_true rfl), (by rw [hR]; exact Nat.le_of_ble_eq_true rfl)⟩) rfl (Nat.le_of_ble_eq_true rfl) ⟨(by rw [hR]; exact Nat.le_of_ble_eq_true rfl), (by rw [hR]; exact Nat.le_of_ble_eq_true rfl)⟩ (fun z18 M17 => ?_)
        exact xv_ireti hY hfl dX12_count_78 hret (Nat.le_of_ble_eq_true rfl) (Nat.le_of_ble_eq_true rfl)
      · refine xv_byif (fun h3 => ?_) (fun h3 => ?_)
        · refine xv_swIn (off := 78) (t := 79) hY dX12_count_1 (xv_inb_in hz) (by omega) (by omega) (by rw [h3]; rfl) (by decide) ?_
          refine xv_aload_n rfl rfl hY dX12_count_79 rfl ?_
          refine xv_getP (ci := 12) (j := 0) hY dX12_count_80 rfl rfl rfl (by decide) hin12 (by decide) rfl (List.mem_of_getElem? (i := 1) rfl) (fun v15 => ?_)
          refine xv_iconst hY dX12_count_83 rfl ?_
          refine xv_iald hY dX12_count_84 rfl (fun v16 => ?_)
          exact xv_ireti hY hfl dX12_count_85 hret (Nat.le_of_ble_eq_true rfl) (Nat.le_of_ble_eq_true rfl)
        · refine xv_byif (fun h4 => ?_) (fun h4 => ?_)
          · refine xv_swIn (off := 85) (t := 86) hY dX12_count_1 (xv_inb_in hz) (by omega) (by omega) (by rw [h4]; rfl) (by decide) ?_
            refine xv_aload_n rfl rfl hY dX12_count_86 rfl ?_
            refine xv_getP (ci := 12) (j := 0) hY dX12_count_87 rfl rfl rfl (by decide) hin12 (by decide) rfl (List.mem_of_getElem? (i := 1) rfl) (fun v13 => ?_)
            refine xv_iconst hY dX12_count_90 rfl ?_
            refine xv_iald hY dX12_count_91 rfl (fun v14 => ?_)
            exact xv_ireti hY hfl dX12_count_92 hret (Nat.le_of_ble_eq_true rfl) (Nat.le_of_ble_eq_true rfl)
          · refine xv_byif (fun h5 => ?_) (fun h5 => ?_)
            · refine xv_swIn (off := 92) (t := 93) hY dX12_count_1 (xv_inb_in hz) (by omega) (by omega) (by rw [h5]; rfl) (by decide) ?_
              refine xv_aload_n rfl rfl hY dX12_count_93 rfl ?_
              refine xv_getP (ci := 12) (j := 0) hY dX12_count_94 rfl rfl rfl (by decide) hin12 (by decide) rfl (List.mem_of_getElem? (i := 1) rfl) (fun v11 => ?_)
              refine xv_iconst hY dX12_count_97 rfl ?_
              refine xv_iald hY dX12_count_98 rfl (fun v12 => ?_)
              exact xv_ireti hY hfl dX12_count_99 hret (Nat.le_of_ble_eq_true rfl) (Nat.le_of_ble_eq_true rfl)
            · refine xv_byif (fun h6 => ?_) (fun h6 => ?_)
              · refine xv_swIn (off := 99) (t := 100) hY dX12_count_1 (xv_inb_in hz) (by omega) (by omega) (by rw [h6]; rfl) (by decide) ?_
                refine xv_aload_n rfl rfl hY dX12_count_100 rfl ?_
                refine xv_callVI (ci := 12) (y := yX12_pairs) (ws := wsX12_pairs) (rm := rm_X12_pairs) (mc := 0) (ms := 0) (n := 0) (av := []) hY dX12_count_101 rfl rfl rfl (by decide) (fun q hq => by rw [hfl]; exact S_X12_pairs Y.1.2.1 a0 M q hq) (cwV 0 hY.2.2.2.2.1 gX12_count_X12_pairs rfl rfl rfl (by decide +kernel) ⟨(by rw [hR]; exact Nat.le_of_ble_eq_true rfl), (by rw [hR]; exact Nat.le_of_ble_eq_true rfl)⟩) rfl (Nat.le_of_ble_eq_true rfl) ⟨(by rw [hR]; exact Nat.le_of_ble_eq_true rfl), (by rw [hR]; exact Nat.le_of_ble_eq_true rfl)⟩ (fun z10 M9 => ?_)
                exact xv_ireti hY hfl dX12_count_104 hret (Nat.le_of_ble_eq_true rfl) (Nat.le_of_ble_eq_true rfl)
              · refine xv_byif (fun h7 => ?_) (fun h7 => ?_)
                · refine xv_swIn (off := 104) (t := 105) hY dX12_count_1 (xv_inb_in hz) (by omega) (by omega) (by rw [h7]; rfl) (by decide) ?_
                  refine xv_aload_n rfl rfl hY dX12_count_105 rfl ?_
                  refine xv_callVI (ci := 12) (y := yX12_visited) (ws := wsX12_visited) (rm := rm_X12_visited) (mc := 0) (ms := 0) (n := 0) (av := []) hY dX12_count_106 rfl rfl rfl (by decide) (fun q hq => by rw [hfl]; exact S_X12_visited Y.1.2.1 a0 M q hq) (cwV 0 hY.2.2.2.2.1 gX12_count_X12_visited rfl rfl rfl (by decide +kernel) ⟨(by rw [hR]; exact Nat.le_of_ble_eq_true rfl), (by rw [hR]; exact Nat.le_of_ble_eq_true rfl)⟩) rfl (Nat.le_of_ble_eq_true rfl) ⟨(by rw [hR]; exact Nat.le_of_ble_eq_true rfl), (by rw [hR]; exact Nat.le_of_ble_eq_true rfl)⟩ (fun z8 M7 => ?_)
                  exact xv_ireti hY hfl dX12_count_109 hret (Nat.le_of_ble_eq_true rfl) (Nat.le_of_ble_eq_true rfl)
                · refine xv_byif (fun h8 => ?_) (fun h8 => ?_)
                  · refine xv_swIn (off := 109) (t := 110) hY dX12_count_1 (xv_inb_in hz) (by omega) (by omega) (by rw [h8]; rfl) (by decide) ?_
                    refine xv_aload_n rfl rfl hY dX12_count_110 rfl ?_
                    refine xv_iconst hY dX12_count_111 rfl ?_
                    refine xv_callVI (ci := 12) (y := yX12_different) (ws := wsX12_different) (rm := rm_X12_different) (mc := 0) (ms := 0) (n := 1) (av := [xi (2 : Int)]) hY dX12_count_112 rfl rfl rfl (by decide) (fun q hq => by rw [hfl]; exact S_X12_different Y.1.2.1 a0 (2 : Int) M q hq) (cwV 1 hY.2.2.2.2.1 gX12_count_X12_different rfl rfl rfl (by decide +kernel) ⟨(by rw [hR]; exact Nat.le_of_ble_eq_true rfl), (by rw [hR]; exact Nat.le_of_ble_eq_true rfl)⟩) rfl (Nat.le_of_ble_eq_true rfl) ⟨(by rw [hR]; exact Nat.le_of_ble_eq_true rfl), (by rw [hR]; exact Nat.le_of_ble_eq_true rfl)⟩ (fun z4 M3 => ?_)
                    refine xv_aload_n rfl rfl hY dX12_count_115 rfl ?_
                    refine xv_iconst hY dX12_count_116 rfl ?_
                    refine xv_callVI (ci := 12) (y := yX12_different) (ws := wsX12_different) (rm := rm_X12_different) (mc := 0) (ms := 0) (n := 1) (av := [xi (3 : Int)]) hY dX12_count_117 rfl rfl rfl (by decide) (fun q hq => by rw [hfl]; exact S_X12_different Y.1.2.1 a0 (3 : Int) M3 q hq) (cwV 1 hY.2.2.2.2.1 gX12_count_X12_different rfl rfl rfl (by decide +kernel) ⟨(by rw [hR]; exact Nat.le_of_ble_eq_true rfl), (by rw [hR]; exact Nat.le_of_ble_eq_true rfl)⟩) rfl (Nat.le_of_ble_eq_true rfl) ⟨(by rw [hR]; exact Nat.le_of_ble_eq_true rfl), (by rw [hR]; exact Nat.le_of_ble_eq_true rfl)⟩ (fun z6 M5 => ?_)
                    refine xv_iadd hY dX12_count_120 rfl ?_
                    exact xv_ireti hY hfl dX12_count_121 hret (Nat.le_of_ble_eq_true rfl) (Nat.le_of_ble_eq_true rfl)
                  · refine xv_byif (fun h9 => ?_) (fun h9 => ?_)
                    · refine xv_swIn (off := 121) (t := 122) hY dX12_count_1 (xv_inb_in hz) (by omega) (by omega) (by rw [h9]; rfl) (by decide) ?_
                      refine xv_aload_n rfl rfl hY dX12_count_122 rfl ?_
                      refine xv_getI (ci := 12) (j := 2) hY dX12_count_123 rfl rfl rfl (by decide) hin12 (by decide) rfl (List.mem_of_getElem? (i := 2) rfl) (fun v2 => ?_)
                      exact xv_ireti hY hfl dX12_count_126 hret (Nat.le_of_ble_eq_true rfl) (Nat.le_of_ble_eq_true rfl)
                    · refine xv_byif (fun h10 => ?_) (fun h10 => ?_)
                      · refine xv_swIn (off := 126) (t := 127) hY dX12_count_1 (xv_inb_in hz) (by omega) (by omega) (by rw [h10]; rfl) (by decide) ?_
                        refine xv_aload_n rfl rfl hY dX12_count_127 rfl ?_
                        refine xv_getI (ci := 12) (j := 5) hY dX12_count_128 rfl rfl rfl (by decide) hin12 (by decide) rfl (List.mem_of_getElem? (i := 3) rfl) (fun v1 => ?_)
                        exact xv_ireti hY hfl dX12_count_131 hret (Nat.le_of_ble_eq_true rfl) (Nat.le_of_ble_eq_true rfl)
                      · refine xv_swOut hY dX12_count_1 (xv_inb_in hz) (by omega) (t := 132) (by decide) ?_
                        refine xv_bipush (by decide) hY dX12_count_132 rfl ?_
                        exact xv_ireti hY hfl dX12_count_134 hret (Nat.le_of_ble_eq_true rfl) (Nat.le_of_ble_eq_true rfl)
