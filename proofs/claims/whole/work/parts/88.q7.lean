/-! ## questions: the reference's way; ask -/
def rWyV (a : RW) (x t : Int) : Int := if t = 1 then rWs (rQn a x) (fun _ => 1) (tdep x x + 1) 0 0 else rWs (rQn a x) (rKn a x) (tdep x x + 1) 0 0
theorem md_way {M : xv_M} {a : RW} (h : xl_OK M) (e : xv_I M 189 = a) (g : rRW a) {x t : Int} (hx : 0 ≤ x ∧ x ≤ 1000) (ht : t = 1 ∨ t = 2) : ∃ M', D_X12_way 188 x t M = some (rWyV a x t, M') ∧ Scr M M' := by
  have hn := g.1.1.n
  have hf : 0 ≤ x ∧ x ≤ x ∧ x ≤ 1000 := ⟨hx.1, Int.le_refl _, hx.2⟩
  obtain ⟨s1, s2, s3⟩ := tdep_spec hf
  obtain ⟨N0, d0, sN0, m1, m2, m3⟩ := md_marks h e g
  obtain ⟨R1, hR1⟩ : ∃ R : Int, R = rWs (rQn a x) (fun _ => 1) (tdep x x + 1) 0 0 := ⟨_, rfl⟩
  obtain ⟨R2, hR2⟩ : ∃ R : Int, R = rWs (rQn a x) (rKn a x) (tdep x x + 1) 0 0 := ⟨_, rfl⟩
  have hV : rWyV a x t = if t = 1 then R1 else R2 := by rw [hR1, hR2]; rfl
  rw [hV]
  unfold D_X12_way
  rw [xr_188 h, d0, xe_call]
  have hres : ∀ (n l : Int) (N : xv_M), n = R1 → (t = 2 → l = R2) → Scr M N → ∃ M', (xv_cmp t 1 (t ≠ 1) (some (l, N)) (some (n, N))) = some ((if t = 1 then R1 else R2), M') ∧ Scr M M' := fun n l N q1 q2 sN => by
    rcases ht with rfl | rfl
    · rw [xe_cmp (by decide) (by decide) (by decide) (by decide), if_neg (by decide), if_pos rfl, q1]
      exact ⟨N, rfl, sN⟩
    · rw [xe_cmp (by decide) (by decide) (by decide) (by decide), if_pos (by decide), if_neg (by decide), q2 rfl]
      exact ⟨N, rfl, sN⟩
  refine xe_invx0 (I := fun (k : Nat) (s : Int × Int × Int × Int × Int × xv_M) => Fl N0 s.2.2.2.2.2 ∧ (k ≤ tdep x x → s.1 = (tat x x k).1 ∧ s.2.1 = (tat x x k).2 ∧ s.2.2.1 = tm x x k ∧ R1 = rWs (rQn a x) (fun _ => 1) (tdep x x + 1 - k) k s.2.2.2.1 ∧ (t = 2 → R2 = rWs (rQn a x) (rKn a x) (tdep x x + 1 - k) k s.2.2.2.2.1)) ∧ (tdep x x < k → (s.2.1 < s.1 ∧ -10 ≤ s.2.1 ∧ s.1 ≤ 5000) ∧ s.2.2.2.1 = R1 ∧ (t = 2 → s.2.2.2.2.1 = R2))) (n := tdep x x + 1) (P := fun z => ∃ M', z = some ((if t = 1 then R1 else R2), M') ∧ Scr M M') (by omega) ⟨Fl.rf, fun _ => ⟨rfl, rfl, rfl, hR1, fun _ => hR2⟩, fun z => by omega⟩ ?_ ?_
  · rintro k ⟨lo, hi, no, n, l, N⟩ hk ⟨fN, h1, _⟩
    obtain ⟨h1, h2, h3, h4, h5⟩ := h1 (by omega)
    dsimp only at fN h1 h2 h3 h4 h5 ⊢
    subst h1 h2 h3
    have sN : Scr M N := sN0.tr fN.scr
    have oN := sN.ok h
    have eN : xv_I N 189 = a := by rw [← e]; exact funext fun j => sN.2.2 189 j (by omega)
    obtain ⟨t1, t2, t3, t4, t5⟩ := tat_in hf k (by omega) (fun i hi => s2 i (by omega))
    obtain ⟨b1, b2⟩ := tm_in hf (k := k) (by omega)
    have e6 : tdep x x + 1 - k = (tdep x x + 1 - (k + 1)) + 1 := by omega
    have h6 : ∀ lk n, rWs (rQn a x) lk (tdep x x + 1 - k) k n = if rQn a x k = true then rWs (rQn a x) lk (tdep x x + 1 - (k + 1)) (k + 1) (n + lk k) else n := fun lk n => by rw [e6]; rfl
    rw [h6] at h4
    have h5' : t = 2 → R2 = if rQn a x k = true then rWs (rQn a x) (rKn a x) (tdep x x + 1 - (k + 1)) (k + 1) (l + rKn a x k) else l := fun q => by rw [h5 q, h6]
    have e193 : xv_I N 193 (tm x x k).toNat = if rQn a x k = true then 1 else 0 := by
      rw [fN.2.2 193 _ (by omega), m1 _ (by omega), Int.toNat_of_nonneg b1]
    by_cases c : rQn a x k = true
    · rw [if_pos c] at h4
      have h5c : t = 2 → R2 = rWs (rQn a x) (rKn a x) (tdep x x + 1 - (k + 1)) (k + 1) (l + rKn a x k) := fun q => by rw [h5' q, if_pos c]
      -- what is looked at
      obtain ⟨N2, dl, f2⟩ := md_looked oN eN g hx (m := tm x x k) ⟨b1, b2⟩
      obtain ⟨l2, N3, hl⟩ : ∃ (l2 : Int) (N3 : xv_M), (t = 1 ∧ l2 = l + 0 ∧ N3 = N) ∨ (t = 2 ∧ l2 = l + rKn a x k ∧ N3 = N2) := by
        rcases ht with q | q
        · exact ⟨l + 0, N, Or.inl ⟨q, rfl, rfl⟩⟩
        · exact ⟨l + rKn a x k, N2, Or.inr ⟨q, rfl, rfl⟩⟩
      have f3 : Fl N0 N3 := by
        rcases hl with ⟨_, _, q⟩ | ⟨_, _, q⟩
        · rw [q]; exact fN
        · rw [q]; exact fN.tr f2
      have hl2 : t = 2 → l2 = l + rKn a x k := fun q => by
        rcases hl with ⟨z, _, _⟩ | ⟨_, z, _⟩
        · omega
        · exact z
      -- where the way goes
      obtain ⟨p, hp⟩ : ∃ p : Int × Int, p = if x < tm x x k then ((tat x x k).1, tm x x k - 1) else if tm x x k < x then (tm x x k + 1, (tat x x k).2) else ((tat x x k).1, (tat x x k).1 - 1) := ⟨_, rfl⟩
      have hpb : -1 ≤ p.1 + p.2 ∧ p.1 + p.2 ≤ 4000 := by
        rw [hp]
        split
        · dsimp only; omega
        · split
          · dsimp only; omega
          · dsimp only; omega
      obtain ⟨no2, hno⟩ : ∃ z : Int, z = if p.1 + p.2 = -1 then 0 else (p.1 + p.2) / 2 := ⟨_, rfl⟩
      refine Or.inl ⟨(p.1, p.2, no2, n + 1, l2, N3), ⟨f3, fun hk2 => ?_, fun hk2 => ?_⟩, fun F => ?_⟩
      · have hlt : k < tdep x x := by omega
        have hnh : ¬ (x ≤ tm x x k ∧ tm x x k ≤ x) := s2 k hlt
        have ep : p = tat x x (k + 1) := by
          rw [hp]
          by_cases c1 : x < tm x x k
          · rw [if_pos c1, tat_left c1]
          · rw [if_neg c1, if_pos (by omega), tat_right c1]
        obtain ⟨u1, u2, u3, u4, u5⟩ := tat_in hf (k + 1) (by omega) (fun i hi => s2 i (by omega))
        dsimp only
        rw [ep] at hno ⊢
        refine ⟨rfl, rfl, ?_, h4, fun q => by rw [hl2 q]; exact h5c q⟩
        rw [hno, if_neg (by omega)]
        rfl
      · have hkk : k = tdep x x := by omega
        have hh : x ≤ tm x x k ∧ tm x x k ≤ x := by rw [hkk]; exact s1
        dsimp only
        rw [hp, if_neg (by omega), if_neg (by omega)]
        dsimp only
        have e0 : tdep x x + 1 - (k + 1) = 0 := by omega
        rw [e0] at h4 h5c
        exact ⟨by omega, h4.symm, fun q => by rw [hl2 q]; exact (h5c q).symm⟩
      · rw [xe_let, xe_cmp (by omega) (by omega) (by omega) (by omega), if_neg (by omega), xg_188_15 oN, xa_193 oN (by omega) (by omega), e193, xe_b0, if_pos c]
        refine xe_letp (fun j => j (l2 - (if t = 2 then rKn a x k else 0), (if t = 2 then rKn a x k else 0), N3) = F (p.1, p.2, no2, n + 1, l2, N3)) ?_ (fun j9 hj9 => ?_)
        · dsimp only
          refine xe_letp (fun j => j p = F (p.1, p.2, no2, n + 1, l2, N3)) ?_ (fun j11 hj11 => ?_)
          · rw [xe_g ⟨rfl, by decide⟩, xm_half hpb, ← hno, Int.sub_add_cancel]
          · rw [xe_cmp (by omega) (by omega) (by omega) (by omega), xe_cmp (by omega) (by omega) (by omega) (by omega), ← hj11, hp]
            by_cases c1 : x < tm x x k
            · rw [if_neg (by omega), if_pos c1]
            · rw [if_pos (by omega), if_neg c1]
              by_cases c2 : tm x x k < x
              · rw [if_neg (by omega), if_pos c2]
              · rw [if_pos (by omega), if_neg c2]
        · rw [← hj9]
          rcases hl with ⟨q1, q2, q3⟩ | ⟨q1, q2, q3⟩
          · subst q1
            rw [xe_cmp (by decide) (by decide) (by decide) (by decide), if_pos (by decide), if_neg (by decide), q2, q3, Int.add_zero, Int.sub_zero]
          · subst q1
            rw [xe_cmp (by decide) (by decide) (by decide) (by decide), if_neg (by decide), if_pos rfl, xr_188 oN, dl, xe_call, q2, q3, Int.add_sub_cancel]
    · rw [if_neg c] at h4
      refine Or.inr (fun F => ?_)
      rw [xe_let, xe_cmp (by omega) (by omega) (by omega) (by omega), if_neg (by omega), xg_188_15 oN, xa_193 oN (by omega) (by omega), e193, xe_b0, if_neg c]
      exact hres n l N h4.symm (fun q => by rw [h5' q, if_neg c]) sN
  · rintro ⟨lo, hi, no, n, l, N⟩ ⟨fN, _, h2⟩ F
    obtain ⟨⟨h1, h1b, h1c⟩, h3, h4⟩ := h2 (by omega)
    dsimp only at fN h1 h1b h1c h3 h4 ⊢
    rw [xe_let, xe_cmp (by omega) (by omega) (by omega) (by omega), if_pos h1]
    exact hres n l N h3 h4 (sN0.tr fN.scr)
def rAsV (a : RW) (x t : Int) : Int := if t = 0 then rCv a x else if t = 1 then rWyV a x 1 else if t = 2 then rWyV a x 2 else if t = 3 then rCh a x 0 (rn a) else if t = 4 then rCh a x 1 (rn a) else -2
def rAsQ (a : RW) (x t : Int) : Int := if 0 ≤ x ∧ x ≤ 1000 then rAsV a x t else -2
theorem xc_ask (hbc : BC) {a H : RW} {k : Nat} {M : xv_M} (h : CLh a H k M) {x t : Int} (hx : iR x) (ht : iR t) : ∃ M', D_X11_ask 1 x t M = some (rAsQ a x t, M') ∧ Scr M M' := by
  have hO := h.1.1.1
  have g := h.2.1
  have hn := g.1.1.n
  unfold D_X11_ask rAsQ
  rw [xm_isPlace hx, xe_call, xe_b1]
  by_cases c : 0 ≤ x ∧ x ≤ 1000
  · rw [if_pos c, if_pos c, xe_g (xe_inb ht.1 ht.2)]
    unfold rAsV
    have hc : t = 0 ∨ t = 1 ∨ t = 2 ∨ t = 3 ∨ t = 4 ∨ (t ≠ 0 ∧ t ≠ 1 ∧ t ≠ 2 ∧ t ≠ 3 ∧ t ≠ 4) := by omega
    rcases hc with rfl | rfl | rfl | rfl | rfl | hc
    · rw [xi_t rfl, if_pos rfl, xg_1_0 hO, xg_2_1 hO, xr_31 hO, xm_over hO c, xe_call, xpc_cov hbc h.1 g.1.1 c, xe_call]
      exact ⟨M, rfl, Scr.rf⟩
    · obtain ⟨N, d, s⟩ := xm_nodesOnWay h.1 g.1.1 c
      rw [xi_f (by decide), xi_t rfl, if_neg (by decide), if_pos rfl, xg_1_0 hO, xg_2_2 hO, xr_33 hO, d, xe_call]
      exact ⟨N, rfl, s⟩
    · obtain ⟨N, d, s⟩ := xm_spansLookedAt h.1 g c
      rw [xi_f (by decide), xi_f (by decide), xi_t rfl, if_neg (by decide), if_neg (by decide), if_pos rfl, xg_1_0 hO, xg_2_2 hO, xg_1_0 hO, xg_2_0 hO, xg_3_1 hO, xr_33 hO, d, xe_call]
      exact ⟨N, rfl, s⟩
    · rw [xi_f (by decide), xi_f (by decide), xi_f (by decide), xi_t rfl, if_neg (by decide), if_neg (by decide), if_neg (by decide), if_pos rfl, xg_1_0 hO, xg_2_1 hO, xr_31 hO, xm_over hO c, xe_call, xm_memberAt (by decide), xe_call]
      have hb := fun s hs => h.1.2.2.1 x.toNat (by omega) s hs
      rw [Int.toNat_of_nonneg c.1] at hb
      have e1 : rMem (fun s => xb (xv_J M 32 x.toNat) s) 60 0 0 = rMem (fun s => decide (s < rn a ∧ rCov a s x)) 60 0 0 := rMem_cg _ _ _ (fun s h1 h2 => hb s (by omega))
      have e2 : rMem (fun s => decide (s < rn a ∧ rCov a s x)) 60 0 0 = rMem (fun s => decide (s < rn a ∧ rCov a s x)) (rn a) 0 0 := by
        have := rMem_up (p := fun s => decide (s < rn a ∧ rCov a s x)) (d := 60 - rn a) (rn a) 0 0 (fun s hs => decide_eq_false (fun z => by omega))
        rw [← this]
        congr 1
        omega
      have e3 : rMem (fun s => decide (s < rn a ∧ rCov a s x)) (rn a) 0 0 = rMem (fun s => decide (rCov a s x)) (rn a) 0 0 := rMem_cg _ _ _ (fun s h1 h2 => by
        have : s < rn a := by omega
        simp [this])
      rw [e1, e2, e3, ← rCh_mem]
      exact ⟨M, rfl, Scr.rf⟩
    · rw [xi_f (by decide), xi_f (by decide), xi_f (by decide), xi_f (by decide), xi_t rfl, if_neg (by decide), if_neg (by decide), if_neg (by decide), if_neg (by decide), if_pos rfl, xg_1_0 hO, xg_2_0 hO, xg_3_1 hO, xg_1_0 hO, xg_2_1 hO, xr_31 hO, xm_over hO c, xe_call, xr_4 hO, xm_shortest h.1 g c, xe_call]
      exact ⟨M, rfl, Scr.rf⟩
    · obtain ⟨c0, c1, c2, c3, c4⟩ := hc
      rw [xi_f c0, xi_f c1, xi_f c2, xi_f c3, xi_f c4, if_neg c0, if_neg c1, if_neg c2, if_neg c3, if_neg c4]
      exact ⟨M, rfl, Scr.rf⟩
  · rw [if_neg c, if_neg c]
    exact ⟨M, rfl, Scr.rf⟩
theorem md_ask {M : xv_M} {a : RW} (h : xl_OK M) (g : rRW a) (e : xv_I M 189 = a) {x t : Int} (hx : iR x) (ht : iR t) : ∃ M', D_X12_ask 188 x t M = some (rAsQ a x t, M') ∧ Scr M M' := by
  unfold D_X12_ask rAsQ
  rw [md_in hx (by decide) (by decide), xe_call, xe_b1]
  by_cases c : 0 ≤ x ∧ x ≤ 1000
  · rw [if_pos c, if_pos c, xe_g (xe_inb ht.1 ht.2)]
    unfold rAsV
    have hc : t = 0 ∨ t = 1 ∨ t = 2 ∨ t = 3 ∨ t = 4 ∨ (t ≠ 0 ∧ t ≠ 1 ∧ t ≠ 2 ∧ t ≠ 3 ∧ t ≠ 4) := by omega
    rcases hc with rfl | rfl | rfl | rfl | rfl | hc
    · rw [xi_t rfl, if_pos rfl, xr_188 h, md_covering h e g.1.1 c, xe_call]
      exact ⟨M, rfl, Scr.rf⟩
    · obtain ⟨N, d, s⟩ := md_way h e g c (t := 1) (Or.inl rfl)
      rw [xi_f (by decide), xi_t rfl, if_neg (by decide), if_pos rfl, xr_188 h, d, xe_call]
      exact ⟨N, rfl, s⟩
    · obtain ⟨N, d, s⟩ := md_way h e g c (t := 2) (Or.inr rfl)
      rw [xi_f (by decide), xi_f (by decide), xi_t rfl, if_neg (by decide), if_neg (by decide), if_pos rfl, xr_188 h, d, xe_call]
      exact ⟨N, rfl, s⟩
    · rw [xi_f (by decide), xi_f (by decide), xi_f (by decide), xi_t rfl, if_neg (by decide), if_neg (by decide), if_neg (by decide), if_pos rfl, xr_188 h, md_chosen h e g c (Or.inl rfl), xe_call]
      exact ⟨M, rfl, Scr.rf⟩
    · rw [xi_f (by decide), xi_f (by decide), xi_f (by decide), xi_f (by decide), xi_t rfl, if_neg (by decide), if_neg (by decide), if_neg (by decide), if_neg (by decide), if_pos rfl, xr_188 h, md_chosen h e g c (Or.inr rfl), xe_call]
      exact ⟨M, rfl, Scr.rf⟩
    · obtain ⟨c0, c1, c2, c3, c4⟩ := hc
      rw [xi_f c0, xi_f c1, xi_f c2, xi_f c3, xi_f c4, if_neg c0, if_neg c1, if_neg c2, if_neg c3, if_neg c4]
      exact ⟨M, rfl, Scr.rf⟩
  · rw [if_neg c, if_neg c]
    exact ⟨M, rfl, Scr.rf⟩
theorem ok_ask (hbc : BC) {M : xv_M} (hi : INV M) {x t : Int} (hx : iR x) (ht : iR t) : ok2 (D_X11_ask 1 x t) (D_X12_ask 188 x t) M := ok_q hi (A := fun a => rAsQ a x t) (fun a H k c => xc_ask hbc c hx ht) (fun M a h g e => md_ask h g e hx ht)
