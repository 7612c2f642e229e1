/-! TEXT: conditions; the reference, all -/
def MO (C : Int → Int) (n : Int) (τ0 : St) (r : Int) (s : St) (R : Re) : Prop := (∃ k L, R = .inl (k, L) ∧ r = -1 ∧ Fm [15, 16, 17] [14, 15, 16, 17, 27, 28, 30, 31, 32] τ0 s ∧ LoC τ0 s ∧ s 0 31 = k ∧ ∃ t M, L = t :: M ∧ s 0 32 = t.2.2) ∨ ∃ L a, (R = .inr (L, a) ∨ (R = .inl (1, L) ∧ ∃ t M, L = t :: M ∧ t.1 = 41)) ∧ r = 0 ∧ Fm [15, 16, 17] [14, 15, 16, 17, 27, 28, 30] τ0 s ∧ LoC τ0 s ∧ RT C n s L ∧ MC s a ∧ a.length + L.length ≤ 401 ∧ s 0 28 = 0
theorem MG.bad {C : Int → Int} {n : Int} {τ0 s : St} {S : List Int} {L : List Tk} {acc : Cd} {R : Re} {k : Int} (h : MG C n τ0 s S L acc) (hR : R = .inl (k, L)) : ∃ s', fX12_errs k s = some (-1, s') ∧ MO C n τ0 (-1) s' R := by
  obtain ⟨⟨rt, _⟩, _, _, f, lo⟩ := h
  obtain ⟨t, M, rfl⟩ := rt.cons
  obtain ⟨s', e, f1, a, b⟩ := m_errs (k := k) rt
  exact ⟨s', e, Or.inl ⟨k, t :: M, hR, rfl, (f.mono (by decide) (by decide)).tr (f1.mono (by decide) (by decide)), lo.tr (LoC.fm f1 (by decide)), a, t, M, rfl, b⟩⟩
theorem MG.read {C : Int → Int} {n : Int} {τ0 s : St} {S : List Int} {t : Tk} {M : List Tk} {acc : Cd} (c : CC C n) (e : ME C n τ0) (h : MG C n τ0 s S (t :: M) acc) (u6 : t.1 ≠ 256) : Ok (fX12_reads s) fun _ s' => MG C n τ0 s' S M acc := by
  obtain ⟨⟨rt, mc, mk, hv⟩, ho, hl, f, lo⟩ := h
  have e1 := e.fm f (by decide)
  refine ok_mono (m_reads e1.1 c e1.2 rt u6) ?_
  rintro _ s' ⟨f1, r1⟩
  rw [List.length_cons] at hl
  exact ⟨⟨r1, mc.fm f1 (by decide), mk.fm f1 (by decide), hv⟩, ho, by omega, f.tr (f1.mono (by decide) (by decide)), lo.tr (LoC.fm f1 (by decide))⟩
/-- a sign waits, and the reference goes on -/
theorem MG.push {C : Int → Int} {n : Int} {τ0 s : St} {S : List Int} {t : Tk} {M : List Tk} {acc : Cd} (c : CC C n) (e : ME C n τ0) (h : MG C n τ0 s S (t :: M) acc) (u6 : t.1 = 265 ∨ t.1 = 264) (hv' : VS (t.1 :: S)) {β : Type} {f : St → Rs β} {P : β → St → Prop} (hf : ∀ s', MG C n τ0 s' (t.1 :: S) M acc → Ok (f s') P) : Ok (bnd (fX12_waits (mkk t.1) s) fun _ s1 => bnd (fX12_reads s1) fun _ s2 => f s2) P := by
  have h' := h
  obtain ⟨⟨rt, mc, mk, hv⟩, ho, hl, fr, lo⟩ := h
  have l26 := hv.len26 ho
  obtain ⟨s1, e1, f1, k1, k3⟩ := MG.wait (C := C) (n := n) (q := t.1) mk (by omega)
  rw [e1, bnd_some, ko_bnd]
  have e2 := (e.fm fr (by decide)).fm f1 (by decide)
  refine ok_mono (m_reads e2.1 c e2.2 (rt.fm f1 (by decide)) (by omega)) ?_
  rintro _ s2 ⟨f2, r2⟩
  rw [List.length_cons] at hl
  have eo : opn (t.1 :: S) = opn S := by
    show opn S + (if t.1 = 40 ∨ t.1 = 266 then 1 else 0) = _
    rw [if_neg (by omega)]; omega
  have mk1 : MK s1 (t.1 :: S) := ⟨by rw [k1, List.length_cons]; omega, by rw [f1.2 28 (by decide), eo]; exact mk.2.1, k3⟩
  exact hf s2 ⟨⟨r2, (mc.fm f1 (by decide)).fm f2 (by decide), mk1.fm f2 (by decide), hv'⟩, by omega, by rw [List.length_cons]; omega, (fr.tr (f1.mono (by decide) (by decide))).tr (f2.mono (by decide) (by decide)), (lo.tr (LoC.fm f1 (by decide))).tr (LoC.fm f2 (by decide))⟩
theorem m_any {C : Int → Int} {n : Int} {τ : St} {L : List Tk} {acc : Cd} (c : CC C n) (e : ME C n τ) (h : RT C n τ L) (mc : MC τ acc) (o0 : τ 0 28 = 0) (len : acc.length + L.length ≤ 401) : Ok (fX12_readAny τ) fun r s => MO C n τ r s (pC L.length true [] L acc) := by
  unfold fX12_readAny
  rw [put_eq, ko_bnx]
  generalize hR : pC L.length true [] L acc = R
  have f0 : Fm [] [30] τ (up τ 0 30 0) := Fm.rf.u0 (by decide)
  refine cnt_ok (fun k x s => ∃ f S M a b, MG C n τ s S M a ∧ pC f b S M a = R ∧ M.length ≤ f ∧ x.1 = dep S ∧ ((x.2 = 0 ∧ b = false ∧ hdS S < 266) ∨ (x.2 = 1 ∧ b = true)) ∧ k = M.length) L.length ⟨L.length, [], L, acc, true, ⟨⟨h.fm f0 (by decide), mc.fm f0 (by decide), ⟨rfl, o0, trivial⟩, trivial⟩, by decide, by rw [List.length_nil]; omega, f0.mono (by decide) (by decide), LoC.fm f0 (by decide)⟩, hR, Nat.le_refl _, rfl, Or.inr ⟨rfl, rfl⟩, rfl⟩ (by omega) ?_
  clear hR f0
  rintro k ⟨d, m⟩ s ⟨f, S, M, a, b, hg, hR, hf, hd, hm, rfl⟩
  simp only at hd hm
  have hg' := hg
  obtain ⟨⟨rt, mc1, mk, hv⟩, ho, hl, fr, lo⟩ := hg
  obtain ⟨t, M, rfl⟩ := rt.cons
  rw [List.length_cons] at hf hl
  obtain ⟨f, rfl⟩ : ∃ m, f = m + 1 := ⟨f - 1, by omega⟩
  have l26 := hv.len26 ho
  rcases hm with ⟨rfl, rfl, h266⟩ | ⟨rfl, rfl⟩
  · show Ok (if (0 : Int) = 0 then _ else _) _
    dsimp only
    rw [if_pos rfl, m_word (w := 5) rt (by decide), bnd_some, show kW 5 = 265 from rfl]
    rw [pC_f] at hR
    by_cases m5 : t.1 = 265
    · rw [if_pos m5, if_neg (by decide), ko_bnd]
      rw [if_pos (Or.inl m5), m5] at hR
      refine ok_mono (show Ok (fX12_settles 10 s) _ from MG.settle (q := 265) (by omega) hg') ?_
      intro _ s1 h1
      rw [(pop10 hv h266).1, (pop10 hv h266).2] at h1
      have ph := pop_hd (p := 265) (by decide) (S := S)
      have hdv := (hv.pop (p := 265)).hd
      have go := MG.push (f := fun s47 => some (Sum.inl (d, (1 : Int)), s47)) (P := Jx (fun x' s => ∃ k', k' < (t :: M).length ∧ ∃ f S M a b, MG C n τ s S M a ∧ pC f b S M a = R ∧ M.length ≤ f ∧ x'.1 = dep S ∧ ((x'.2 = 0 ∧ b = false ∧ hdS S < 266) ∨ (x'.2 = 1 ∧ b = true)) ∧ k' = M.length) (Jx (fun (_ : Unit) s => Ok (bnd (fX12_errs 3 s) fun r95 s96 => some (r95, s96)) fun r s => MO C n τ r s R) fun r s => MO C n τ r s R)) c e h1 (Or.inl m5) ⟨hv.pop, by omega⟩ fun s' h' => ok_ret ⟨M.length, by rw [List.length_cons]; omega, f, _, M, _, true, h', by rw [m5]; exact hR, by omega, by
          rw [hd, m5]
          show dep S = dep (popS 265 S) + (if (265 : Int) = 40 then 1 else 0)
          rw [pop_dep (by decide), if_neg (by decide)]; omega, Or.inr ⟨rfl, rfl⟩, rfl⟩
      rw [m5] at go
      exact go
    · rw [if_neg m5, if_pos rfl, m_word (w := 4) rt (by decide), bnd_some, show kW 4 = 264 from rfl]
      by_cases m4 : t.1 = 264
      · rw [if_pos m4, if_neg (by decide), ko_bnd]
        rw [if_pos (Or.inr m4), m4] at hR
        refine ok_mono (show Ok (fX12_settles 10 s) _ from MG.settle (q := 265) (by omega) hg') ?_
        intro _ s1 h1
        rw [(pop10 hv h266).1, (pop10 hv h266).2] at h1
        rw [ko_bnd]
        refine ok_mono (show Ok (fX12_settles 11 s1) _ from MG.settle (q := 264) (by omega) h1) ?_
        intro _ s2 h2
        have ph5 := pop_hd (p := 265) (by decide) (S := S)
        rw [(pop11 hv.pop ph5).1, (pop11 hv.pop ph5).2, List.append_assoc, (pop12 hv h266).1, (pop12 hv h266).2] at h2
        have ph := pop_hd (p := 264) (by decide) (S := S)
        have hdv := (hv.pop (p := 264)).hd
        have go := MG.push (f := fun s47 => some (Sum.inl (d, (1 : Int)), s47)) (P := Jx (fun x' s => ∃ k', k' < (t :: M).length ∧ ∃ f S M a b, MG C n τ s S M a ∧ pC f b S M a = R ∧ M.length ≤ f ∧ x'.1 = dep S ∧ ((x'.2 = 0 ∧ b = false ∧ hdS S < 266) ∨ (x'.2 = 1 ∧ b = true)) ∧ k' = M.length) (Jx (fun (_ : Unit) s => Ok (bnd (fX12_errs 3 s) fun r95 s96 => some (r95, s96)) fun r s => MO C n τ r s R) fun r s => MO C n τ r s R)) c e h2 (Or.inr m4) ⟨hv.pop, by omega⟩ fun s' h' => ok_ret ⟨M.length, by rw [List.length_cons]; omega, f, _, M, _, true, h', by rw [m4]; exact hR, by omega, by
            rw [hd, m4]
            show dep S = dep (popS 264 S) + (if (264 : Int) = 40 then 1 else 0)
            rw [pop_dep (by decide), if_neg (by decide)]; omega, Or.inr ⟨rfl, rfl⟩, rfl⟩
        rw [m4] at go
        exact go
      · rw [if_neg m4, if_pos rfl, ko_bnd]
        rw [if_neg (by omega)] at hR
        refine ok_mono (show Ok (fX12_settles 10 s) _ from MG.settle (q := 265) (by omega) hg') ?_
        intro _ s1 h1
        rw [(pop10 hv h266).1, (pop10 hv h266).2] at h1
        rw [ko_bnd]
        refine ok_mono (show Ok (fX12_settles 11 s1) _ from MG.settle (q := 264) (by omega) h1) ?_
        intro _ s2 h2
        have ph5 := pop_hd (p := 265) (by decide) (S := S)
        rw [(pop11 hv.pop ph5).1, (pop11 hv.pop ph5).2, List.append_assoc, (pop12 hv h266).1, (pop12 hv h266).2] at h2
        have pd := pop_dep (p := 264) (by decide) (S := S)
        have ph := pop_hd (p := 264) (by decide) (S := S)
        generalize popE 264 S = E1 at *
        generalize popS 264 S = S1 at *
        have h2' := h2
        obtain ⟨⟨rt2, mc2, mk2, hv2⟩, ho2, hl2, fr2, lo2⟩ := h2
        match S1, hR, h2', hl2, pd, mk2, hv2, ph, ho2 with
        | [], hR, h2', hl2, pd, mk2, hv2, ph, ho2 =>
          have pd : (0 : Int) = dep S := pd
          have hR : (if t.1 = 41 then .inl (1, t :: M) else .inr (t :: M, a ++ E1)) = R := hR
          rw [if_pos (show d = 0 by omega)]
          rw [List.length_nil, List.length_cons] at hl2
          refine ok_ret (show MO C n τ 0 s2 R from Or.inr ⟨t :: M, a ++ E1, ?_, rfl, fr2, lo2, rt2, mc2, by rw [List.length_cons]; omega, mk2.2.1⟩)
          by_cases m1 : t.1 = 41
          · rw [if_pos m1] at hR; exact Or.inr ⟨hR.symm, t, M, rfl, m1⟩
          · rw [if_neg m1] at hR; exact Or.inl hR.symm
        | y :: S2, hR, h2', hl2, pd, mk2, hv2, ph, ho2 =>
          have hR : (if t.1 = 41 then pC f false (popS 266 S2) M (a ++ E1 ++ popE 266 S2) else .inl (1, t :: M)) = R := hR
          have y4 : y = 40 := by
            have q := hv2.2
            have b : y < 264 := ph
            omega
          have pd : dep S2 + (if y = 40 then 1 else 0) = dep S := pd
          rw [if_pos y4] at pd
          have d0 := dep_0 (S := S2)
          have l262 := hv2.len26 ho2
          rw [List.length_cons] at l262
          rw [if_neg (show ¬ d = 0 by omega), m_sign rt2 (by decide), bnd_some]
          by_cases m1 : t.1 = 41
          · rw [if_pos m1] at hR
            have eo : opn (y :: S2) = opn S2 + 1 := by
              show opn S2 + (if y = 40 ∨ y = 266 then 1 else 0) = _
              rw [if_pos (Or.inl y4)]
            have q0 := opn_0 (S := S2)
            obtain ⟨k1, k2, k3⟩ := mk2
            rw [List.length_cons] at k1
            have dl : dep S ≤ 8 + 0 := by
              have : ∀ T : List Int, dep T ≤ opn T := by
                intro T
                induction T with
                | nil => exact Int.le_refl _
                | cons x T ih => unfold dep opn; split <;> split <;> omega
              have := this S
              omega
            rw [if_pos m1, if_neg (by decide), fld_eq, k1, put_eq, w32_sm (x := ((S2.length + 1 : Nat) : Int) - 1) (by omega), w32_sm (x := d - 1) (by omega), lb_eq, fld_eq]
            have e28 : up s2 0 30 (((S2.length + 1 : Nat) : Int) - 1) 0 28 = opn S2 + 1 := by rw [← eo]; exact k2
            rw [e28, put_eq, w32_sm (by omega), ko_bnd]
            have fu : Fm [] [28, 30] s2 (up (up s2 0 30 (((S2.length + 1 : Nat) : Int) - 1)) 0 28 (opn S2 + 1 - 1)) := (Fm.rf.u0 (by decide)).u0 (by decide)
            have h3 : MG C n τ (up (up s2 0 30 (((S2.length + 1 : Nat) : Int) - 1)) 0 28 (opn S2 + 1 - 1)) S2 (t :: M) (a ++ E1) := by
              refine ⟨⟨rt2.fm fu (by decide), mc2.fm fu (by decide), ⟨?_, ?_, ?_⟩, hv2.1⟩, by omega, by simp only [List.length_cons] at hl2 ⊢; omega, fr2.tr (fu.mono (by decide) (by decide)), lo2.tr (LoC.fm fu (by decide))⟩
              · show ((S2.length + 1 : Nat) : Int) - 1 = _; omega
              · show opn S2 + 1 - 1 = _; omega
              · exact k3.2
            refine ok_mono (show Ok (fX12_settles 9 _) _ from MG.settle (q := 266) (by omega) h3) ?_
            intro _ s4 h4
            rw [(pop9 hv2.1).1, (pop9 hv2.1).2] at h4
            rw [ko_bnd]
            refine ok_mono (h4.read c e (by omega)) ?_
            intro _ s5 h5
            exact ok_ret ⟨M.length, by rw [List.length_cons]; omega, f, _, M, _, false, h5, hR, by omega, by show d - 1 = _; rw [pop_dep (by decide)]; omega, Or.inl ⟨rfl, rfl, pop_hd (by decide)⟩, rfl⟩
          · rw [if_neg m1] at hR
            obtain ⟨s3, e3, h3⟩ := h2'.bad (k := 1) hR.symm
            rw [if_neg m1, if_pos rfl, e3, bnd_some]
            exact ok_ret (show MO C n τ (-1) s3 R from h3)
  · show Ok (if (1 : Int) = 0 then _ else _) _
    dsimp only
    rw [if_neg (by decide), m_word (w := 6) rt (by decide), bnd_some, show kW 6 = 266 from rfl]
    rw [pC_t] at hR
    have push : ∀ (z : Int) (q : Int) (d' : Int), z = mkk t.1 → q = 1 → (t.1 = 40 ∨ t.1 = 266) → d' = dep (t.1 :: S) → opn S ≠ 8 → Ok (put s 0 28 (w32 (opn S + 1)) fun s77 => bnd (some (d', s77)) fun (y80 : Int) s81 => bnd (some (z, s81)) fun (y83 : Int) s84 => bnd (fX12_waits y83 s84) fun r86 s87 => bnd (fX12_reads s87) fun r89 s90 => some (Sum.inl (y80, q), s90)) (Jx (fun x' s => ∃ k', k' < (t :: M).length ∧ ∃ f S M a b, MG C n τ s S M a ∧ pC f b S M a = R ∧ M.length ≤ f ∧ x'.1 = dep S ∧ ((x'.2 = 0 ∧ b = false ∧ hdS S < 266) ∨ (x'.2 = 1 ∧ b = true)) ∧ k' = M.length) (Jx (fun (_ : Unit) s => Ok (bnd (fX12_errs 3 s) fun r95 s96 => some (r95, s96)) fun r s => MO C n τ r s R) fun r s => MO C n τ r s R)) := by
      intro z q d' hz hq mm hd' o8
      subst hz hq
      rw [if_pos mm, if_neg o8] at hR
      have q0 := opn_0 (S := S)
      rw [put_eq, w32_sm (by omega), bnd_some, bnd_some]
      have fu : Fm [] [28] s (up s 0 28 (opn S + 1)) := Fm.rf.u0 (by decide)
      obtain ⟨k1, k2, k3⟩ := mk
      have eo : opn (t.1 :: S) = opn S + 1 := by
        show opn S + (if t.1 = 40 ∨ t.1 = 266 then 1 else 0) = _
        rw [if_pos mm]
      obtain ⟨z1, z2, z3, z5, z7⟩ : ∃ s', fX12_waits (mkk t.1) (up s 0 28 (opn S + 1)) = some (0, s') ∧ Fm [17] [30] (up s 0 28 (opn S + 1)) s' ∧ s' 0 30 = (S.length : Int) + 1 ∧ stkA (s' 17) ((t.1 :: S).map mkk) := by
        have e3 : up s 0 28 (opn S + 1) 0 30 = s 0 30 := rfl
        have e4 : up (up s 0 28 (opn S + 1)) 17 (s 0 30) (mkk t.1) 0 30 = s 0 30 := rfl
        unfold fX12_waits
        rw [fld_eq, e3, sto_eq (by omega), fld_eq, e4, w32_sm (by omega), put_eq]
        refine ⟨_, rfl, (Fm.rf.up (by decide) (by decide)).u0 (by decide), by rw [← k1]; rfl, ?_, ?_⟩
        · show (if 17 = 17 ∧ ((S.map mkk).length : Int) = s 0 30 then mkk t.1 else s 17 (S.map mkk).length) = mkk t.1
          rw [if_pos ⟨rfl, by rw [List.length_map, k1]⟩]
        · refine stk_cong k3 fun i i0 i1 => ?_
          rw [List.length_map] at i1
          show (if 17 = 17 ∧ i = s 0 30 then mkk t.1 else s 17 i) = s 17 i
          rw [if_neg (by omega)]
      rw [z2, bnd_some, ko_bnd]
      have F := fu.mono (C2 := [17]) (J2 := [28, 30]) (by decide) (by decide) |>.tr (z3.mono (by decide) (by decide))
      have h1 : MG C n τ z1 (t.1 :: S) (t :: M) a → _ := fun h => h.read c e (by omega)
      have e2 := (e.fm fr (by decide)).fm F (by decide)
      refine ok_mono (m_reads e2.1 c e2.2 (rt.fm F (by decide)) (by omega)) ?_
      rintro _ s2 ⟨f2, r2⟩
      have mk1 : MK z1 (t.1 :: S) := ⟨by rw [z5, List.length_cons]; omega, by rw [z3.2 28 (by decide), eo]; rfl, z7⟩
      exact ok_ret ⟨M.length, by rw [List.length_cons]; omega, f, t.1 :: S, M, a, true, ⟨⟨r2, (mc1.fm F (by decide)).fm f2 (by decide), mk1.fm f2 (by decide), hv, by omega⟩, by omega, by rw [List.length_cons]; omega, (fr.tr (F.mono (by decide) (by decide))).tr (f2.mono (by decide) (by decide)), (lo.tr (LoC.fm F (by decide))).tr (LoC.fm f2 (by decide))⟩, hR, by omega, hd', Or.inr ⟨rfl, rfl⟩, rfl⟩
    have full : opn S = 8 → (t.1 = 40 ∨ t.1 = 266) → Ok (bnd (fX12_errs 3 s) fun r95 s96 => some (r95, s96)) fun r s => MO C n τ r s R := by
      intro o8 mm
      rw [if_pos mm, if_pos o8] at hR
      obtain ⟨s3, e3, h3⟩ := hg'.bad (k := 3) hR.symm
      rw [e3, bnd_some]
      exact ok_ret h3
    have d0 := dep_0 (S := S)
    have dl : dep S ≤ 8 := by
      have : ∀ T : List Int, dep T ≤ opn T := by
        intro T
        induction T with
        | nil => exact Int.le_refl _
        | cons x T ih => unfold dep opn; split <;> split <;> omega
      have := this S
      omega
    by_cases m6 : t.1 = 266
    · rw [if_pos m6, if_neg (by decide), bnx_inl, fld_eq, mk.2.1]
      by_cases o8 : opn S = 8
      · rw [if_pos o8]
        exact ok_ret (show Ok _ _ from full o8 (Or.inr m6))
      · rw [if_neg o8, fld_eq, mk.2.1]
        simp only [Int.reduceEq, if_false]
        exact push 9 1 d (by rw [m6]; rfl) rfl (Or.inr m6) (by rw [hd]; show dep S = dep S + (if t.1 = 40 then 1 else 0); rw [if_neg (by omega)]; omega) o8
    · rw [if_neg m6, if_pos rfl, m_sign rt (by decide), bnd_some]
      by_cases m4 : t.1 = 40
      · rw [if_pos m4, if_neg (by decide), bnx_inl, fld_eq, mk.2.1]
        by_cases o8 : opn S = 8
        · rw [if_pos o8]
          exact ok_ret (show Ok _ _ from full o8 (Or.inl m4))
        · have e1 : w32 (d + 1) = d + 1 := w32_sm (by omega)
          rw [if_neg o8, fld_eq, mk.2.1]
          simp only [Int.reduceEq, if_true, lb_eq, e1]
          exact push 12 1 (d + 1) (by rw [m4]; rfl) rfl (Or.inl m4) (by rw [hd]; show dep S + 1 = dep S + (if t.1 = 40 then 1 else 0); rw [if_pos m4]) o8
      · rw [if_neg m4, if_pos rfl, bnx_bnd, ko_bnd]
        rw [if_neg (by omega)] at hR
        refine ok_mono (m_cmp c (e.fm fr (by decide)) rt mc1 (by rw [List.length_cons]; omega)) ?_
        intro r s3 hr
        have pin := fun L' a' => pC0_in (L := t :: M) (L' := L') (a := a) (a' := a')
        generalize pC0 (t :: M) a = R3 at *
        match R3, hr, pin, hR with
        | .inl (k, L3), ⟨hr, f3, l3, a3, b3⟩, _, hR =>
          rw [if_pos hr, bnx_inr]
          exact ok_ret (show MO C n τ (-1) s3 R from Or.inl ⟨k, L3, hR.symm, rfl, (fr.mono (by decide) (by decide)).tr f3, lo.tr l3, a3, b3⟩)
        | .inr (L3, a3), ⟨hr, f3, l3, r3, c3⟩, pin, hR =>
          rw [if_neg (by omega), bnx_bnd, ko_bnd]
          obtain ⟨_, lb3, lt3⟩ := pin _ _ rfl
          rw [List.length_cons] at lb3 lt3
          have h3 : MG C n τ s3 S L3 a3 := ⟨⟨r3, c3, mk.fm f3 (by decide), hv⟩, ho, by omega, fr.tr (f3.mono (by decide) (by decide)), lo.tr l3⟩
          refine ok_mono (show Ok (fX12_settles 9 s3) _ from MG.settle (q := 266) (by omega) h3) ?_
          intro _ s4 h4
          rw [(pop9 hv).1, (pop9 hv).2] at h4
          rw [bnx_inr]
          exact ok_ret ⟨L3.length, by rw [List.length_cons]; omega, f, _, L3, _, false, h4, hR, by omega, by rw [pop_dep (by decide)]; exact hd, Or.inl ⟨rfl, rfl, pop_hd (by decide)⟩, rfl⟩
