/-! ## questions: what they may touch -/
def Scr (M M' : xv_M) : Prop := M'.1 = M.1 ∧ M'.2.2 = M.2.2 ∧ ∀ r j, ¬ (r = 38 ∨ (183 ≤ r ∧ r ≤ 187) ∨ r = 193 ∨ r = 194 ∨ (r = 188 ∧ 6 ≤ j)) → xv_I M' r j = xv_I M r j
theorem Scr.rf {M : xv_M} : Scr M M := ⟨rfl, rfl, fun _ _ _ => rfl⟩
theorem Scr.tr {M M' M'' : xv_M} (h : Scr M M') (h2 : Scr M' M'') : Scr M M'' := ⟨h2.1.trans h.1, h2.2.1.trans h.2.1, fun r j hr => (h2.2.2 r j hr).trans (h.2.2 r j hr)⟩
theorem Scr.ok {M M' : xv_M} (h : Scr M M') (hO : xl_OK M) : xl_OK M' := ⟨h.1.trans hO.1, fun r j hr => by
  show M'.2.2.2 r j = _
  rw [h.2.1]
  exact hO.2 r j hr⟩
theorem Scr.sm {M M' : xv_M} (h : Scr M M') {l u : Nat} (hu : (u < 38) ∨ (39 ≤ l ∧ u < 183) ∨ (189 ≤ l ∧ u < 193)) : Sm l u M M' := fun r j h1 h2 => ⟨h.2.2 r j (by omega), by show M'.2.2.1 r j = M.2.2.1 r j; rw [h.2.1]⟩
theorem LN.fr2 {a : RW} {M M' : xv_M} (h : LN a M) (q : rGd a) (hO : xl_OK M') (s : Sm 3 37 M M') : LN a M' := by
  obtain ⟨cb, ci, cc, tr⟩ := h
  obtain ⟨cb', ci'⟩ := SB.cb hO ((cb.sb ci).fr q.n q.m (s.sub (by omega) (by omega)))
  refine ⟨cb', ci', fun x hx t ht => ?_, fun t h1 h2 => ?_, fun x hx => ?_, fun x hx => ?_⟩
  · rw [(s 32 x (by omega) (by omega)).2]; exact cc x hx t ht
  · rw [(s 34 t (by omega) (by omega)).1, (s 35 t (by omega) (by omega)).1]; exact tr.1 t h1 h2
  · rw [(s 36 x (by omega) (by omega)).1]; exact tr.2.1 x hx
  · rw [(s 37 x (by omega) (by omega)).1]; exact tr.2.2 x hx
theorem CLh.scr {a H : RW} {k : Nat} {M M' : xv_M} (h : CLh a H k M) (s : Scr M M') : CLh a H k M' := ⟨h.1.fr2 h.2.1.1.1 (s.ok h.1.1.1) (s.sm (by omega)), h.2.1, (s.2.2 39 0 (by omega)).trans h.2.2.1, h.2.2.2.1, h.2.2.2.2.fr h.2.2.2.1 (by rw [s.2.1]) (s.sm (by omega))⟩
theorem INV.scr {M M' : xv_M} (h : INV M) (s : Scr M M') : INV M' := by
  obtain ⟨k, hk, cl, sl, tx⟩ := h
  refine ⟨k, (s.2.2 188 2 (by omega)).trans hk, ?_, ?_, ?_⟩
  · rw [show xv_I M' 189 = xv_I M 189 from funext fun j => s.2.2 189 j (by omega), show xv_I M' 190 = xv_I M 190 from funext fun j => s.2.2 190 j (by omega)]
    exact cl.scr s
  · exact sl.fr (s.2.2 188 4 (by omega)) (s.2.2 1 5 (by omega)) (s.sm (by omega)) (funext fun j => s.2.2 191 j (by omega))
  · exact tx.fr (s.2.2 181 0 (by omega)) (fun j => s.2.2 182 j (by omega)) (s.2.2 188 5 (by omega)) (fun j => s.2.2 192 j (by omega))
theorem mk_at {M : xv_M} {a : RW} (e : xv_I M 189 = a) : mk M a = M := by
  subst e
  exact mk_self M
theorem ok_q {d1 d2 : xv_M → Option (Int × xv_M)} {M : xv_M} (hi : INV M) {A : RW → Int}
    (h1 : ∀ (a H : RW) (k : Nat), CLh a H k M → ∃ M', d1 M = some (A a, M') ∧ Scr M M')
    (h2 : ∀ (M : xv_M) (a : RW), xl_OK M → rRW a → xv_I M 189 = a → ∃ M', d2 M = some (A a, M') ∧ Scr M M') : ok2 d1 d2 M := by
  have hi' := hi
  obtain ⟨k, hk, cl, sl, tx⟩ := hi'
  obtain ⟨M1, e1, s1⟩ := h1 _ _ _ cl
  have er : xv_I M1 189 = xv_I M 189 := funext fun j => s1.2.2 189 j (by omega)
  obtain ⟨M2, e2, s2⟩ := h2 M1 (xv_I M 189) (s1.ok cl.1.1.1) cl.2.1 er
  exact ⟨_, M1, M2, s1.ok cl.1.1.1, e1, e2, hi.scr (s1.tr s2)⟩
section WR
variable {M : xv_M} {a : RW}
theorem w_of (h : xl_OK M) (e : xv_I M 189 = a) {s j : Nat} (hs : s < 60) (hj : j < 7) : D_X12_of 188 (s : Int) (j : Int) M = some (a (6 + 7 * s + j), M) := by
  have := md_of' (M := M) (a := a) h hs hj
  rwa [mk_at e] at this
theorem w_of2 (h : xl_OK M) (e : xv_I M 189 = a) {s : Nat} (hs : s < 60) : D_X12_of 188 (s : Int) 2 M = some (a (6 + 7 * s + 2), M) := w_of h e hs (j := 2) (by decide)
theorem w_of3 (h : xl_OK M) (e : xv_I M 189 = a) {s : Nat} (hs : s < 60) : D_X12_of 188 (s : Int) 3 M = some (a (6 + 7 * s + 3), M) := w_of h e hs (j := 3) (by decide)
theorem w_of4 (h : xl_OK M) (e : xv_I M 189 = a) {s : Nat} (hs : s < 60) : D_X12_of 188 (s : Int) 4 M = some (a (6 + 7 * s + 4), M) := w_of h e hs (j := 4) (by decide)
theorem w_isThere (h : xl_OK M) (e : xv_I M 189 = a) (g : rGd a) {s : Nat} (hs : s < 60) : D_X12_isThere 188 (s : Int) M = some (if a (6 + 7 * s + 4) = 1 then 1 else 0, M) := by
  have := md_isThere (M := M) (a := a) h hs (g.2.2.2.2.1 s hs)
  rwa [mk_at e] at this
theorem w_cov (h : xl_OK M) (e : xv_I M 189 = a) (g : rGd a) {s : Nat} (hs : s < 60) {x : Int} (hx : 0 ≤ x ∧ x ≤ 1000) : D_X12_covers 188 (s : Int) x M = some (if rCov a s x then 1 else 0, M) := by
  have := md_cov (M := M) (a := a) h g hs hx
  rwa [mk_at e] at this
theorem w_ins (h : xl_OK M) (e : xv_I M 189 = a) (g : rGd a) {w s : Nat} (hw : w < 6) (hs : s < 60) : D_X12_isInside 188 (w : Int) (s : Int) M = some (if rIn a w s then 1 else 0, M) := by
  have := md_ins (M := M) (a := a) h g hw hs
  rwa [mk_at e] at this
theorem w_its (h : xl_OK M) (e : xv_I M 189 = a) {w j : Nat} (hw : w < 6) (hj : j < 6) : D_X12_its 188 (w : Int) (j : Int) M = some (a (426 + 6 * w + j), M) := by
  have ei : ((426 : Int) + 6 * (w : Int) + (j : Int)).toNat = 426 + 6 * w + j := by omega
  unfold D_X12_its
  rw [xg_188_0 h, xa_189 h (by omega) (by omega), ei, e]
theorem w_noSpan (h : xl_OK M) (e : xv_I M 189 = a) (g : rGd a) {x : Int} (hx : iR x) : D_X12_noSpan 188 x M = some (if 0 ≤ x ∧ x < a 1 ∧ a (6 + 7 * x.toNat + 4) = 1 then 0 else 1, M) := by
  have := md_noSpan (M := M) (a := a) h hx g.2.1 g.2.2.2.2.1
  rwa [mk_at e] at this
theorem w_noWalker (h : xl_OK M) (e : xv_I M 189 = a) (g : rGd a) {x : Int} (hx : iR x) : D_X12_noWalker 188 x M = some (if 0 ≤ x ∧ x < a 2 then 0 else 1, M) := by
  have := md_noWalker (M := M) (a := a) h hx g.2.2.1
  rwa [mk_at e] at this
theorem w_rd (h : xl_OK M) (e : xv_I M 189 = a) {T : Type} {i : Nat} (hi : i < 870) {f : Int → Option T} : xv_aI M 14 189 (i : Int) f = f (a i) := by
  rw [xa_189 h (by omega) (by omega), Int.toNat_natCast, e]
end WR
/-! the reference finds a node -/
/-- what finding touches: m its marks -/
def Fnd (f l : Int) (m : Int) (k : Nat) (M M' : xv_M) : Prop := M'.1 = M.1 ∧ M'.2.2 = M.2.2 ∧ (∀ r j, ¬ (r = 193 ∨ r = 194 ∨ (r = 188 ∧ (j = 13 ∨ j = 14))) → xv_I M' r j = xv_I M r j) ∧ xv_I M' 188 13 = tm f l k ∧ xv_I M' 188 14 = (k : Int)
theorem md_finds {M : xv_M} {a : RW} (h : xl_OK M) (e : xv_I M 189 = a) {s : Nat} (hs : s < 60) (hf : 0 ≤ rF a s ∧ rF a s ≤ rG a s ∧ rG a s ≤ 1000) {m : Int} (hm : m = 0 ∨ m = 1) : ∃ M', D_X12_finds 188 (s : Int) m M = some ((), M') ∧ Fnd (rF a s) (rG a s) m (tdep (rF a s) (rG a s)) M M' ∧ (∀ x : Nat, xv_I M' 193 x = if m = 1 ∧ ∃ i, i < tdep (rF a s) (rG a s) + 1 ∧ tm (rF a s) (rG a s) i = (x : Int) then 1 else xv_I M 193 x) ∧ (∀ x : Nat, xv_I M' 194 x = if m = 1 ∧ (x : Int) = tmid (rF a s) (rG a s) then xv_I M 194 x + 1 else xv_I M 194 x) := by
  obtain ⟨s1, s2, s3⟩ := tdep_spec hf
  obtain ⟨f, hF⟩ : ∃ f : Int, f = rF a s := ⟨_, rfl⟩
  obtain ⟨l, hL⟩ : ∃ l : Int, l = rG a s := ⟨_, rfl⟩
  rw [← hF, ← hL] at hf s1 s2 s3 ⊢
  have e2 : a (6 + 7 * s + 2) = f := hF.symm
  have e3 : a (6 + 7 * s + 3) = l := hL.symm
  obtain ⟨M1, hM1⟩ : ∃ M1 : xv_M, M1 = xv_sI M 188 14 0 := ⟨_, rfl⟩
  obtain ⟨M2, hM2⟩ : ∃ M2 : xv_M, M2 = xv_sI M1 188 13 500 := ⟨_, rfl⟩
  have o1 : xl_OK M1 := by rw [hM1]; exact h
  have h500 : ((Int32.ofInt ((0 : Int) + (1000 : Int)) / Int32.ofInt (2 : Int)).toInt) = 500 := by decide
  unfold D_X12_finds
  rw [xu_188_14 h, ← hM1, xe_g ⟨rfl, by decide⟩, h500, xu_188_13 o1, ← hM2]
  have hb : ∀ k, k ≤ tdep f l → (0 ≤ tm f l k ∧ tm f l k ≤ 1000) := fun k hk => tm_in hf hk
  refine xe_inv0 (I := fun (k : Nat) (q : Int × Int × xv_M) => q.1 = (tat f l k).1 ∧ q.2.1 = (tat f l k).2 ∧ Fnd f l m k M q.2.2 ∧ (∀ x : Nat, xv_I q.2.2 193 x = if m = 1 ∧ ∃ i, i < k ∧ tm f l i = (x : Int) then 1 else xv_I M 193 x) ∧ (∀ x, xv_I q.2.2 194 x = xv_I M 194 x)) (n := tdep f l) (P := fun z => ∃ M', z = some ((), M') ∧ Fnd f l m (tdep f l) M M' ∧ (∀ x : Nat, xv_I M' 193 x = if m = 1 ∧ ∃ i, i < tdep f l + 1 ∧ tm f l i = (x : Int) then 1 else xv_I M 193 x) ∧ (∀ x : Nat, xv_I M' 194 x = if m = 1 ∧ (x : Int) = tmid f l then xv_I M 194 x + 1 else xv_I M 194 x)) (by omega) ⟨rfl, rfl, ⟨by rw [hM2, hM1]; rfl, by rw [hM2, hM1]; rfl, fun r j hr => ?_, ?_, ?_⟩, fun x => ?_, fun x => ?_⟩ ?_ ?_
  · rw [hM2, xe_I_sI, if_neg (by omega), hM1, xe_I_sI, if_neg (by omega)]
  · rw [hM2, xe_I_sI, if_pos ⟨rfl, rfl⟩]; rfl
  · rw [hM2, xe_I_sI, if_neg (by omega), hM1, xe_I_sI, if_pos ⟨rfl, rfl⟩]; rfl
  · rw [if_neg (fun z => by obtain ⟨i, hi, _⟩ := z.2; omega), hM2, xe_I_sI, if_neg (by omega), hM1, xe_I_sI, if_neg (by omega)]
  · rw [hM2, xe_I_sI, if_neg (by omega), hM1, xe_I_sI, if_neg (by omega)]
  · rintro k ⟨lo, hi, N⟩ hk ⟨q1, q2, ⟨n1, n2, n3, n4, n5⟩, q3, q4⟩
    dsimp only at q1 q2 n1 n2 n3 n4 n5 q3 q4 ⊢
    subst q1 q2
    have oN : xl_OK N := ⟨n1.trans h.1, fun r j hr => by show N.2.2.2 r j = _; rw [n2]; exact h.2 r j hr⟩
    have eN : xv_I N 189 = a := by rw [← e]; exact funext fun j => n3 189 j (by omega)
    have hbk := hb k (by omega)
    obtain ⟨t1, t2, t3, t4, t5⟩ := tat_in hf k (by omega) (fun i hi => s2 i (by omega))
    have hnh := s2 k hk
    have ek : ((k : Int) + 1) = ((k + 1 : Nat) : Int) := by omega
    -- behind the mark
    obtain ⟨N1, hN1⟩ : ∃ N1 : xv_M, N1 = if m = 1 then xv_sI N 193 (tm f l k).toNat 1 else N := ⟨_, rfl⟩
    have c1 : N1.1 = N.1 ∧ N1.2.2 = N.2.2 ∧ (∀ r j, r ≠ 193 → xv_I N1 r j = xv_I N r j) ∧ ∀ x : Nat, xv_I N1 193 x = if m = 1 ∧ (x : Int) = tm f l k then 1 else xv_I N 193 x := by
      rcases hm with rfl | rfl
      · rw [if_neg (by decide)] at hN1
        rw [hN1]
        exact ⟨rfl, rfl, fun _ _ _ => rfl, fun x => by rw [if_neg (fun z => by omega)]⟩
      · rw [if_pos rfl] at hN1
        rw [hN1]
        refine ⟨rfl, rfl, fun r j hr => by rw [xe_I_sI, if_neg (fun z => hr z.1)], fun x => ?_⟩
        rw [xe_I_sI]
        by_cases hx : (x : Int) = tm f l k
        · rw [if_pos ⟨rfl, by omega⟩, if_pos ⟨rfl, hx⟩]
        · rw [if_neg (fun z => hx (by omega)), if_neg (fun z => hx z.2)]
    obtain ⟨d1, d2, d3, d4⟩ := c1
    have oN1 : xl_OK N1 := ⟨d1.trans oN.1, fun r j hr => by show N1.2.2.2 r j = _; rw [d2]; exact oN.2 r j hr⟩
    have eN1 : xv_I N1 189 = a := by rw [← eN]; exact funext fun j => d3 189 j (by decide)
    have m1 : xv_I N1 188 13 = tm f l k := (d3 188 13 (by decide)).trans n4
    have m2 : xv_I N1 188 14 = (k : Int) := (d3 188 14 (by decide)).trans n5
    obtain ⟨N3, hN3⟩ : ∃ N3 : xv_M, N3 = xv_sI (xv_sI N1 188 13 (tm f l (k + 1))) 188 14 ((k + 1 : Nat) : Int) := ⟨_, rfl⟩
    refine ⟨((tat f l (k + 1)).1, (tat f l (k + 1)).2, N3), ⟨rfl, rfl, ⟨?_, ?_, fun r j hr => ?_, ?_, ?_⟩, fun x => ?_, fun x => ?_⟩, fun F => ?_⟩
    · rw [hN3]; exact d1.trans n1
    · rw [hN3]; exact d2.trans n2
    · rw [hN3, xe_I_sI, if_neg (by omega), xe_I_sI, if_neg (by omega), d3 r j (by omega)]
      exact n3 r j hr
    · rw [hN3, xe_I_sI, if_neg (by omega), xe_I_sI, if_pos ⟨rfl, rfl⟩]
    · rw [hN3, xe_I_sI, if_pos ⟨rfl, rfl⟩]
    · rw [hN3, xe_I_sI, if_neg (by omega), xe_I_sI, if_neg (by omega), d4, q3]
      by_cases c : m = 1 ∧ (x : Int) = tm f l k
      · rw [if_pos c, if_pos ⟨c.1, k, by omega, c.2.symm⟩]
      · rw [if_neg c]
        by_cases c2 : m = 1 ∧ ∃ i, i < k ∧ tm f l i = (x : Int)
        · obtain ⟨c3, i, c4, c5⟩ := c2
          rw [if_pos ⟨c3, i, c4, c5⟩, if_pos ⟨c3, i, by omega, c5⟩]
        · rw [if_neg c2, if_neg]
          rintro ⟨c3, i, c4, c5⟩
          by_cases hik : i = k
          · subst hik; exact c ⟨c3, c5.symm⟩
          · exact c2 ⟨c3, i, by omega, c5⟩
    · rw [hN3, xe_I_sI, if_neg (by omega), xe_I_sI, if_neg (by omega), d3 194 x (by decide)]
      exact q4 x
    · rw [xg_188_13 oN, n4, xr_188 oN, w_of2 oN eN hs, xe_call, e2, xr_188 oN, w_of3 oN eN hs, xe_call, e3, md_in (by omega) (by omega) (by omega), xe_call, xe_b1, if_neg (fun z => hnh z)]
      refine xe_letp (fun j => j N1 = F ((tat f l (k + 1)).1, (tat f l (k + 1)).2, N3)) ?_ (fun j hj => ?_)
      · rw [xr_188 oN1, w_of3 oN1 eN1 hs, xe_call, e3, xg_188_13 oN1, m1]
        refine xe_letp (fun j => j ((tat f l (k + 1)).1, (tat f l (k + 1)).2) = F ((tat f l (k + 1)).1, (tat f l (k + 1)).2, N3)) ?_ (fun j hj => ?_)
        · obtain ⟨M3, hM3⟩ : ∃ M3 : xv_M, M3 = xv_sI N1 188 13 (tm f l (k + 1)) := ⟨_, rfl⟩
          have o3 : xl_OK M3 := by rw [hM3]; exact oN1
          have e14 : xv_I M3 188 14 = (k : Int) := by rw [hM3, xe_I_sI, if_neg (by omega), m2]
          obtain ⟨u1, u2, u3, u4, u5⟩ := tat_in hf (k + 1) (by omega) (fun i hi => s2 i (by omega))
          have hhalf : ((Int32.ofInt ((tat f l (k + 1)).1 + (tat f l (k + 1)).2) / Int32.ofInt (2 : Int)).toInt) = tm f l (k + 1) := by
            rw [xm_half (by omega), if_neg (by omega)]
            rfl
          dsimp only
          rw [xe_g ⟨rfl, by decide⟩, hhalf, xu_188_13 oN1, ← hM3, xg_188_14 o3, e14, xu_188_14 o3, ek, hM3, ← hN3]
        · rw [xe_cmp (by omega) (by omega) (by omega) (by omega)]
          by_cases c : l < tm f l k
          · rw [if_neg (by omega), xg_188_13 oN1, m1, ← hj, tat_left c]
          · rw [if_pos (by omega), xg_188_13 oN1, m1, ← hj, tat_right c]
      · rcases hm with rfl | rfl
        · rw [if_neg (by decide)] at hN1
          rw [xe_cmp (by decide) (by decide) (by decide) (by decide), if_pos rfl, ← hN1, hj]
        · rw [if_pos rfl] at hN1
          rw [xe_cmp (by decide) (by decide) (by decide) (by decide), if_neg (by decide), xg_188_15 oN, xg_188_13 oN, n4, xw_193 oN (by omega) (by omega) (Or.inr rfl), ← hN1, hj]
  · rintro ⟨lo, hi, N⟩ ⟨q1, q2, ⟨n1, n2, n3, n4, n5⟩, q3, q4⟩ F
    dsimp only at q1 q2 n1 n2 n3 n4 n5 q3 q4 ⊢
    subst q1 q2
    have oN : xl_OK N := ⟨n1.trans h.1, fun r j hr => by show N.2.2.2 r j = _; rw [n2]; exact h.2 r j hr⟩
    have eN : xv_I N 189 = a := by rw [← e]; exact funext fun j => n3 189 j (by omega)
    have hbk := hb (tdep f l) (by omega)
    rw [xg_188_13 oN, n4, xr_188 oN, w_of2 oN eN hs, xe_call, e2, xr_188 oN, w_of3 oN eN hs, xe_call, e3, md_in (by omega) (by omega) (by omega), xe_call, xe_b1, if_pos s1]
    have hmid : tm f l (tdep f l) = tmid f l := rfl
    rcases hm with rfl | rfl
    · rw [xe_cmp (by decide) (by decide) (by decide) (by decide), if_pos rfl]
      exact ⟨N, rfl, ⟨n1, n2, n3, n4, n5⟩, fun x => by rw [q3 x, if_neg (fun z => absurd z.1 (by decide)), if_neg (fun z => absurd z.1 (by decide))], fun x => by rw [q4 x, if_neg (fun z => absurd z.1 (by decide))]⟩
    · obtain ⟨N1, hN1⟩ : ∃ N1 : xv_M, N1 = xv_sI N 193 (tm f l (tdep f l)).toNat 1 := ⟨_, rfl⟩
      have o1 : xl_OK N1 := by rw [hN1]; exact oN
      have m1 : xv_I N1 188 13 = tm f l (tdep f l) := by rw [hN1, xe_I_sI, if_neg (by omega), n4]
      rw [xe_cmp (by decide) (by decide) (by decide) (by decide), if_neg (by decide), xg_188_15 oN, xg_188_13 oN, n4, xw_193 oN (by omega) (by omega) (Or.inr rfl), ← hN1, xg_188_16 o1, xg_188_13 o1, m1, xa_194 o1 (by omega) (by omega), xw_194 o1 (by omega) (by omega)]
      refine ⟨_, rfl, ⟨?_, ?_, fun r j hr => ?_, ?_, ?_⟩, fun x => ?_, fun x => ?_⟩
      · rw [hN1]; exact n1
      · rw [hN1]; exact n2
      · rw [xe_I_sI, if_neg (by omega), hN1, xe_I_sI, if_neg (by omega)]; exact n3 r j hr
      · rw [xe_I_sI, if_neg (by omega), m1]
      · rw [xe_I_sI, if_neg (by omega), hN1, xe_I_sI, if_neg (by omega), n5]
      · rw [xe_I_sI, if_neg (by omega), hN1, xe_I_sI]
        by_cases c : (x : Int) = tm f l (tdep f l)
        · rw [if_pos ⟨rfl, by omega⟩, if_pos ⟨rfl, tdep f l, by omega, c.symm⟩]
        · rw [if_neg (fun z => c (by omega)), q3 x]
          by_cases c2 : (1 : Int) = 1 ∧ ∃ i, i < tdep f l ∧ tm f l i = (x : Int)
          · obtain ⟨_, i, c4, c5⟩ := c2
            rw [if_pos ⟨rfl, i, c4, c5⟩, if_pos ⟨rfl, i, by omega, c5⟩]
          · rw [if_neg c2, if_neg]
            rintro ⟨_, i, c4, c5⟩
            by_cases hik : i = tdep f l
            · subst hik; exact c c5.symm
            · exact c2 ⟨rfl, i, by omega, c5⟩
      · have e94 : ∀ y, xv_I N1 194 y = xv_I M 194 y := fun y => by rw [hN1, xe_I_sI, if_neg (by omega)]; exact q4 y
        rw [xe_I_sI, e94, e94, ← hmid]
        by_cases c : (x : Int) = tm f l (tdep f l)
        · have : (tm f l (tdep f l)).toNat = x := by omega
          rw [if_pos ⟨rfl, this.symm⟩, if_pos ⟨rfl, c⟩, this]
        · rw [if_neg (fun z => c (by omega)), if_neg (fun z => c z.2)]
