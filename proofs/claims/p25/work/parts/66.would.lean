/-! ===== the law's question what would be ===== -/
abbrev wL (x : Int32) (n p : Nat) (w told safe outs : Int32) (pl : Nat) (hears : Int32) (no nt lz is : Option Value) : xL := [some (.ref 1), some (.int x), some (.int (nI n)), some (.int (nI p)), some (.int w), some (.int told), some (.int safe), some (.int outs), some (.int (nI pl)), some (.int hears), no, nt, lz, is]
set_option maxRecDepth 100000 in
set_option maxHeartbeats 16000000 in
theorem zz_would (d : Nat) (T : xT) (x : Int32) (Q : xQ) (hk : tOk T) (k : ∀ g, SG g T → Q (some (.int (nI 1))) g) : ∀ g, SG g T → Cx (d + 6) i_Law_would [.ref 1, .int x] g Q := by
  have hk0 := hk.1
  have hkV := hk.1
  obtain ⟨⟨o1, o2, o3, o4, o5, o6⟩, o7, o8, o9, o10, o11, o12⟩ := hk0
  generalize hV : tV T = V at *
  have e0 : qCount T (iN (nI 0)) = nI (vph V) := by rw [qc0, hV]
  have e1 : qCount T (iN (nI 1)) = nI (vc V) := by rw [qc1, hV]
  have e2 : qCount T (iN (nI 2)) = nI (vn V) := by rw [qc2, hV]
  have e3 : qCount T (iN (nI 3)) = nI (x_enc (vin V) (vn V)) := by rw [qc3, hV]
  have hcle := x_cnt_le (vin V) (vn V)
  refine z_cl (L0 := [some (.ref 1), some (.int x), none, none, none, none, none, none, none, none, none, none, none, none]) rfl rfl rfl rfl ?_
  have main : ∀ p i pl, p ≤ vn V → i < 5 → pl ≤ vc V → Zx (d + 5) m_Law_would Q 72 (wL x (vn V) p (nI i - nI 1) (qIf V (nI p) (nI i - nI 1)) (qSafe V (nI p)) (qOuts V) pl (qHears V (nI p) (nI pl)) none none none none) [] T := by
    intro p i pl hp hi hpl
    generalize hw : nI i - nI 1 = w
    generalize hto : qIf V (nI p) w = told
    generalize hsa : qSafe V (nI p) = safe
    generalize hou : qOuts V = outs
    generalize hhe : qHears V (nI p) (nI pl) = hears
    have end468 : ∀ no nt lz, Zx (d + 5) m_Law_would Q 468 (wL x (vn V) p w told safe outs pl hears no nt lz (some (.int (nI 1)))) [] T := by
      intro no nt lz
      refine z_run 400 hk rfl ?_
      exact z_zret rfl rfl (by decide) k
    have end437 : hears = -1000001 → ∀ no nt lz, Zx (d + 5) m_Law_would Q 437 (wL x (vn V) p w told safe outs pl hears no nt lz (some (.int (nI 1)))) [] T := by
      intro hh no nt lz
      rw [hh]
      refine z_run 400 hk rfl ?_
      refine z_icF rfl (kx_same) ?_
      refine z_to 468 400 hk rfl ?_
      rw [hh] at end468
      exact end468 _ _ _
    -- who hears
    have at422 : ∀ no nt lz, ((no = 1 ∧ p = vn V) ∨ (no = 0 ∧ p < vn V)) → Zx (d + 5) m_Law_would Q 422 (wL x (vn V) p w told safe outs pl hears (some (.int (nI no))) nt lz (some (.int (nI 1)))) [] T := by
      intro no nt lz hno
      refine z_run 400 hk rfl ?_
      rcases hno with ⟨rfl, hpn⟩ | ⟨rfl, hpn⟩
      · refine z_ifT rfl (by first | (rw [k0_lt (by omega)] <;> omega) | (rw [k0_ge (by omega)] <;> omega) | (rw [k0_gt (by omega)] <;> omega) | (rw [k0_le (by omega)] <;> omega) | (rw [k0_eq (by omega)] <;> omega) | (rw [k0_ne (by omega)] <;> omega)) ?_
        exact end437 (by rw [← hhe]; exact wh_out o6 o5 hp hpl (Or.inl hpn)) _ _ _
      · refine z_ifF rfl (by first | (rw [k0_lt (by omega)] <;> omega) | (rw [k0_ge (by omega)] <;> omega) | (rw [k0_gt (by omega)] <;> omega) | (rw [k0_le (by omega)] <;> omega) | (rw [k0_eq (by omega)] <;> omega) | (rw [k0_ne (by omega)] <;> omega)) ?_
        refine z_run 400 hk rfl ?_
        rw [e1]
        by_cases hpc : pl = vc V
        · refine z_icF rfl (by first | exact kx_same | exact kx_eq | (rw [k_lt (by omega) (by omega)] <;> omega) | (rw [k_ge (by omega) (by omega)] <;> omega) | (rw [k_gt (by omega) (by omega)] <;> omega) | (rw [k_le (by omega) (by omega)] <;> omega) | (rw [k_eq (by omega) (by omega)] <;> omega) | (rw [k_ne (by omega) (by omega)] <;> omega)) ?_
          exact end437 (by rw [← hhe]; exact wh_out o6 o5 hp hpl (Or.inr hpc)) _ _ _
        · refine z_icT rfl (by first | exact kx_same | exact kx_eq | (rw [k_lt (by omega) (by omega)] <;> omega) | (rw [k_ge (by omega) (by omega)] <;> omega) | (rw [k_gt (by omega) (by omega)] <;> omega) | (rw [k_le (by omega) (by omega)] <;> omega) | (rw [k_eq (by omega) (by omega)] <;> omega) | (rw [k_ne (by omega) (by omega)] <;> omega)) ?_
          refine z_run 400 hk rfl ?_
          have q1 : qPlayer (tV T) (nI p) (nI 1) = nI (vea V p) := by rw [hV]; exact qp1 hpn o6
          have q0 : qChair (tV T) (nI pl) (nI 0) = nI (vtn V pl) := by rw [hV]; exact qh0 (by omega) o5
          rw [q1, q0, ← wh_in hkV hpn (by omega), hhe]
          refine z_icF rfl (kx_same) ?_
          exact end468 _ _ _
    -- who would be out
    have at363 : ∀ no nt lz, ((no = 1 ∧ p = vn V) ∨ (no = 0 ∧ p < vn V)) → Zx (d + 5) m_Law_would Q 363 (wL x (vn V) p w told safe outs pl hears (some (.int (nI no))) nt lz (some (.int (nI 1)))) [] T := by
      intro no nt lz hno
      refine z_run 400 hk rfl ?_
      refine z_ifF rfl (by first | (rw [k0_lt (by omega)] <;> omega) | (rw [k0_ge (by omega)] <;> omega) | (rw [k0_gt (by omega)] <;> omega) | (rw [k0_le (by omega)] <;> omega) | (rw [k0_eq (by omega)] <;> omega) | (rw [k0_ne (by omega)] <;> omega)) ?_
      refine z_run 400 hk rfl ?_
      rw [e0]
      by_cases h1 : vph V = 1
      · refine z_icT rfl (by first | exact kx_same | exact kx_eq | (rw [k_lt (by omega) (by omega)] <;> omega) | (rw [k_ge (by omega) (by omega)] <;> omega) | (rw [k_gt (by omega) (by omega)] <;> omega) | (rw [k_le (by omega) (by omega)] <;> omega) | (rw [k_eq (by omega) (by omega)] <;> omega) | (rw [k_ne (by omega) (by omega)] <;> omega)) ?_
        have ho := wo_1 h1
        rw [hou] at ho
        have hg := vGE (b := 0) hkV h1
        have hone : ∀ (f : Nat → Bool) (Q : xQ), (∀ g, SG g T → Q (some (.int (nI (x_cnt f (vn V))))) g) → ∀ g, SG g T → Cx (d + 5) i_Law_ones [.int (nI (x_enc f (vn V)))] g Q := fun f Q k => l_ones d T _ Q hk (by have := enc_31 (f := f) (n := vn V) (by omega); omega) (fun g hg => by rw [enc_cnt (by omega)]; exact k g hg)
        refine z_run 400 hk rfl ?_
        rw [e3]
        have ha : outs &&& (nI (x_enc (vin V) (vn V)) ^^^ -1) = nI 0 := by
          rw [ho, enc_andnot (k := fun _ => false) (fun i hi => by
            cases hx : XO (vX V 0 (vTT V 0)) i with
            | false => rfl
            | true => rw [wf_O hkV h1 hi hx]; rfl), enc_0 (fun _ _ => rfl)]
        rw [ha]
        refine z_ifF rfl (by first | (rw [k0_lt (by omega)] <;> omega) | (rw [k0_ge (by omega)] <;> omega) | (rw [k0_gt (by omega)] <;> omega) | (rw [k0_le (by omega)] <;> omega) | (rw [k0_eq (by omega)] <;> omega) | (rw [k0_ne (by omega)] <;> omega)) ?_
        suffices F : ∀ y : Int32, y = outs → Zx (d + 5) m_Law_would Q 400 (wL x (vn V) p w told safe y pl hears (some (.int (nI no))) nt lz (some (.int (nI 1)))) [] T from F _ rfl
        intro y hy
        rw [ho] at hy
        rw [hy]
        refine z_run 400 hk rfl ?_
        refine z_ins rfl rfl rfl rfl (hone _ _ ?_)
        refine z_run 400 hk rfl ?_
        rw [e3]
        refine z_ins rfl rfl rfl rfl (hone _ _ ?_)
        refine z_run 400 hk rfl ?_
        have hs : nI (x_cnt (vin V) (vn V)) - qCount T (iN (nI 1)) = nI (x_cnt (XO (vX V 0 (vTT V 0))) (vn V)) := by
          rw [e1, ← hg.2.2.2.2.1, pk_sub (by omega)]
          congr 1
          omega
        rw [hs]
        refine z_icF rfl (kx_same) ?_
        rw [← ho]
        exact at422 _ _ _ hno
      · refine z_icF rfl (by first | exact kx_same | exact kx_eq | (rw [k_lt (by omega) (by omega)] <;> omega) | (rw [k_ge (by omega) (by omega)] <;> omega) | (rw [k_gt (by omega) (by omega)] <;> omega) | (rw [k_le (by omega) (by omega)] <;> omega) | (rw [k_eq (by omega) (by omega)] <;> omega) | (rw [k_ne (by omega) (by omega)] <;> omega)) ?_
        refine z_run 400 hk rfl ?_
        rw [show outs = -1000002 by rw [← hou]; exact wo_0 h1] at at422 ⊢
        refine z_icF rfl (kx_same) ?_
        refine z_to 422 400 hk rfl ?_
        exact at422 _ _ _ hno
    have at356 : ∀ (no : Nat) (nt lz : Int32) is, ((no = 1 ∧ p = vn V) ∨ (no = 0 ∧ p < vn V)) → Zx (d + 5) m_Law_would Q 356 (wL x (vn V) p w told safe outs pl hears (some (.int (nI no))) (some (.int nt)) (some (.int lz)) is) [] T := by
      intro no nt lz is hno
      refine z_to 363 400 hk rfl ?_
      exact at363 _ _ _ hno
    -- does the player lose
    have at114 : ∀ no nt, ((no = 1 ∧ p = vn V ∧ nt = 0) ∨ (no = 0 ∧ p < vn V ∧ nt = 1 ∧ ¬ (vph V = 1 ∧ vin V p = true)) ∨ (no = 0 ∧ p < vn V ∧ nt = 0 ∧ (vph V = 1 ∧ vin V p = true))) → Zx (d + 5) m_Law_would Q 114 (wL x (vn V) p w told safe outs pl hears (some (.int (nI no))) (some (.int (nI nt))) none none) [] T := by
      intro no nt hc
      have at136 : ∀ lz, (vph V = 1 ∧ vin V p = true ∧ p < vn V → lz = if XO (vX V 0 (vTT V 0)) p = true then 1 else 0) → Zx (d + 5) m_Law_would Q 136 (wL x (vn V) p w told safe outs pl hears (some (.int (nI no))) (some (.int (nI nt))) (some (.int (nI lz))) none) [] T := by
        intro lz hlz
        have bad276 : told = -1000001 → Zx (d + 5) m_Law_would Q 276 (wL x (vn V) p w told safe outs pl hears (some (.int (nI no))) (some (.int (nI nt))) (some (.int (nI lz))) none) [] T → Zx (d + 5) m_Law_would Q 152 (wL x (vn V) p w told safe outs pl hears (some (.int (nI no))) (some (.int (nI nt))) (some (.int (nI lz))) none) [] T := by
          intro ht hn
          rw [ht] at hn ⊢
          refine z_run 400 hk rfl ?_
          refine z_icF rfl (kx_same) ?_
          refine z_to 276 400 hk rfl ?_
          exact hn
        rcases hc with ⟨rfl, hpn, rfl⟩ | ⟨rfl, hpn, rfl, hnt⟩ | ⟨rfl, hpn, rfl, hin⟩
        · -- no such player
          refine z_run 400 hk rfl ?_
          refine z_ifT rfl (by first | (rw [k0_lt (by omega)] <;> omega) | (rw [k0_ge (by omega)] <;> omega) | (rw [k0_gt (by omega)] <;> omega) | (rw [k0_le (by omega)] <;> omega) | (rw [k0_eq (by omega)] <;> omega) | (rw [k0_ne (by omega)] <;> omega)) ?_
          refine bad276 (by rw [← hto, hpn]; exact wf_out o6 _) ?_
          rw [show safe = -1000001 by rw [← hsa, hpn]; exact ws_out o6] at at356 ⊢
          refine z_run 400 hk rfl ?_
          refine z_ifF rfl (by first | (rw [k0_lt (by omega)] <;> omega) | (rw [k0_ge (by omega)] <;> omega) | (rw [k0_gt (by omega)] <;> omega) | (rw [k0_le (by omega)] <;> omega) | (rw [k0_eq (by omega)] <;> omega) | (rw [k0_ne (by omega)] <;> omega)) ?_
          refine z_run 400 hk rfl ?_
          refine z_icF rfl (kx_same) ?_
          refine z_to 356 400 hk rfl ?_
          exact at356 _ _ _ _ (Or.inl ⟨rfl, hpn⟩)
        · -- not possible
          have h276 : Zx (d + 5) m_Law_would Q 276 (wL x (vn V) p w told safe outs pl hears (some (.int (nI 0))) (some (.int (nI 1))) (some (.int (nI lz))) none) [] T := by
            rw [show safe = -1000002 by rw [← hsa]; exact ws_not hpn o6 hnt] at at356 ⊢
            refine z_run 400 hk rfl ?_
            refine z_ifT rfl (by first | (rw [k0_lt (by omega)] <;> omega) | (rw [k0_ge (by omega)] <;> omega) | (rw [k0_gt (by omega)] <;> omega) | (rw [k0_le (by omega)] <;> omega) | (rw [k0_eq (by omega)] <;> omega) | (rw [k0_ne (by omega)] <;> omega)) ?_
            refine z_run 400 hk rfl ?_
            refine z_ifF rfl (by first | (rw [k0_lt (by omega)] <;> omega) | (rw [k0_ge (by omega)] <;> omega) | (rw [k0_gt (by omega)] <;> omega) | (rw [k0_le (by omega)] <;> omega) | (rw [k0_eq (by omega)] <;> omega) | (rw [k0_ne (by omega)] <;> omega)) ?_
            refine z_run 400 hk rfl ?_
            refine z_icF rfl (kx_same) ?_
            refine z_to 356 400 hk rfl ?_
            exact at356 _ _ _ _ (Or.inr ⟨rfl, hpn⟩)
          refine z_run 400 hk rfl ?_
          refine z_ifF rfl (by first | (rw [k0_lt (by omega)] <;> omega) | (rw [k0_ge (by omega)] <;> omega) | (rw [k0_gt (by omega)] <;> omega) | (rw [k0_le (by omega)] <;> omega) | (rw [k0_eq (by omega)] <;> omega) | (rw [k0_ne (by omega)] <;> omega)) ?_
          refine z_run 400 hk rfl ?_
          by_cases hi0 : i = 0
          · rw [show w = -1 by rw [← hw, hi0]; decide]
            refine z_ifT rfl ((show (-1 : Int32) < 0 by decide)) ?_
            rw [show w = -1 by rw [← hw, hi0]; decide] at hto bad276 h276
            exact bad276 (by rw [← hto]; exact wf_bad hpn o6 (by decide)) h276
          · have hw1 : w = nI (i - 1) := by rw [← hw, pk_sub (by omega)]
            rw [hw1] at hto bad276 h276 ⊢
            refine z_ifF rfl (by first | (rw [k0_lt (by omega)] <;> omega) | (rw [k0_ge (by omega)] <;> omega) | (rw [k0_gt (by omega)] <;> omega) | (rw [k0_le (by omega)] <;> omega) | (rw [k0_eq (by omega)] <;> omega) | (rw [k0_ne (by omega)] <;> omega)) ?_
            refine z_run 400 hk rfl ?_
            by_cases hi4 : i = 4
            · refine z_icF rfl (by first | exact kx_same | exact kx_eq | (rw [k_lt (by omega) (by omega)] <;> omega) | (rw [k_ge (by omega) (by omega)] <;> omega) | (rw [k_gt (by omega) (by omega)] <;> omega) | (rw [k_le (by omega) (by omega)] <;> omega) | (rw [k_eq (by omega) (by omega)] <;> omega) | (rw [k_ne (by omega) (by omega)] <;> omega)) ?_
              exact bad276 (by rw [← hto]; exact wf_bad hpn o6 (by rw [iN_nI (by omega)]; omega)) h276
            · refine z_icT rfl (by first | exact kx_same | exact kx_eq | (rw [k_lt (by omega) (by omega)] <;> omega) | (rw [k_ge (by omega) (by omega)] <;> omega) | (rw [k_gt (by omega) (by omega)] <;> omega) | (rw [k_le (by omega) (by omega)] <;> omega) | (rw [k_eq (by omega) (by omega)] <;> omega) | (rw [k_ne (by omega) (by omega)] <;> omega)) ?_
              rw [show told = -1000002 by rw [← hto]; exact wf_not hpn o6 (by rw [iN_nI (by omega)]; omega) hnt] at h276 ⊢
              refine z_run 400 hk rfl ?_
              refine z_ifF rfl (by first | (rw [k0_lt (by omega)] <;> omega) | (rw [k0_ge (by omega)] <;> omega) | (rw [k0_gt (by omega)] <;> omega) | (rw [k0_le (by omega)] <;> omega) | (rw [k0_eq (by omega)] <;> omega) | (rw [k0_ne (by omega)] <;> omega)) ?_
              refine z_run 400 hk rfl ?_
              refine z_icF rfl (kx_same) ?_
              refine z_to 276 400 hk rfl ?_
              exact h276
        · -- in play, with music
          have hlz := hlz ⟨hin.1, hin.2, hpn⟩
          have h276 : Zx (d + 5) m_Law_would Q 276 (wL x (vn V) p w told safe outs pl hears (some (.int (nI 0))) (some (.int (nI 0))) (some (.int (nI lz))) none) [] T := by
            refine z_run 400 hk rfl ?_
            refine z_ifT rfl (by first | (rw [k0_lt (by omega)] <;> omega) | (rw [k0_ge (by omega)] <;> omega) | (rw [k0_gt (by omega)] <;> omega) | (rw [k0_le (by omega)] <;> omega) | (rw [k0_eq (by omega)] <;> omega) | (rw [k0_ne (by omega)] <;> omega)) ?_
            refine z_run 400 hk rfl ?_
            refine z_ifT rfl (by first | (rw [k0_lt (by omega)] <;> omega) | (rw [k0_ge (by omega)] <;> omega) | (rw [k0_gt (by omega)] <;> omega) | (rw [k0_le (by omega)] <;> omega) | (rw [k0_eq (by omega)] <;> omega) | (rw [k0_ne (by omega)] <;> omega)) ?_
            refine z_run 400 hk rfl ?_
            rcases ws_in hkV hpn hin with ⟨hs, ho⟩ | ⟨s, hs1, hs, hs2⟩
            · rw [show safe = -1000004 by rw [← hsa]; exact hs] at at356 ⊢
              refine z_icF rfl (kx_same) ?_
              refine z_run 400 hk rfl ?_
              rw [ho, if_pos rfl] at hlz
              refine z_ifF rfl (by first | (rw [k0_lt (by omega)] <;> omega) | (rw [k0_ge (by omega)] <;> omega) | (rw [k0_gt (by omega)] <;> omega) | (rw [k0_le (by omega)] <;> omega) | (rw [k0_eq (by omega)] <;> omega) | (rw [k0_ne (by omega)] <;> omega)) ?_
              refine z_to 356 400 hk rfl ?_
              exact at356 _ _ _ _ (Or.inr ⟨rfl, hpn⟩)
            · rw [show safe = nI s by rw [← hsa]; exact hs] at at356 ⊢
              refine z_icT rfl (fun z => k_nn (by omega) (by decide) z) ?_
              refine z_run 400 hk rfl ?_
              refine z_ifF rfl (by first | (rw [k0_lt (by omega)] <;> omega) | (rw [k0_ge (by omega)] <;> omega) | (rw [k0_gt (by omega)] <;> omega) | (rw [k0_le (by omega)] <;> omega) | (rw [k0_eq (by omega)] <;> omega) | (rw [k0_ne (by omega)] <;> omega)) ?_
              refine z_run 400 hk rfl ?_
              refine z_icF rfl (by first | exact kx_same | exact kx_eq | (rw [k_lt (by omega) (by omega)] <;> omega) | (rw [k_ge (by omega) (by omega)] <;> omega) | (rw [k_gt (by omega) (by omega)] <;> omega) | (rw [k_le (by omega) (by omega)] <;> omega) | (rw [k_eq (by omega) (by omega)] <;> omega) | (rw [k_ne (by omega) (by omega)] <;> omega)) ?_
              refine z_run 400 hk rfl ?_
              by_cases h0 : s = 0
              · rw [hs2.mp h0, if_neg (by decide)] at hlz
                refine z_ifF rfl (by first | (rw [k0_lt (by omega)] <;> omega) | (rw [k0_ge (by omega)] <;> omega) | (rw [k0_gt (by omega)] <;> omega) | (rw [k0_le (by omega)] <;> omega) | (rw [k0_eq (by omega)] <;> omega) | (rw [k0_ne (by omega)] <;> omega)) ?_
                refine z_run 400 hk rfl ?_
                refine z_ifF rfl (by first | (rw [k0_lt (by omega)] <;> omega) | (rw [k0_ge (by omega)] <;> omega) | (rw [k0_gt (by omega)] <;> omega) | (rw [k0_le (by omega)] <;> omega) | (rw [k0_eq (by omega)] <;> omega) | (rw [k0_ne (by omega)] <;> omega)) ?_
                refine z_run 400 hk rfl ?_
                refine z_icF rfl (kx_same) ?_
                exact at356 _ _ _ _ (Or.inr ⟨rfl, hpn⟩)
              · have ho : XO (vX V 0 (vTT V 0)) p = true := by
                  cases ho : XO (vX V 0 (vTT V 0)) p with
                  | true => rfl
                  | false => exact absurd (hs2.mpr ho) h0
                rw [ho, if_pos rfl] at hlz
                refine z_ifT rfl (by first | (rw [k0_lt (by omega)] <;> omega) | (rw [k0_ge (by omega)] <;> omega) | (rw [k0_gt (by omega)] <;> omega) | (rw [k0_le (by omega)] <;> omega) | (rw [k0_eq (by omega)] <;> omega) | (rw [k0_ne (by omega)] <;> omega)) ?_
                refine z_run 400 hk rfl ?_
                refine z_ifT rfl (by first | (rw [k0_lt (by omega)] <;> omega) | (rw [k0_ge (by omega)] <;> omega) | (rw [k0_gt (by omega)] <;> omega) | (rw [k0_le (by omega)] <;> omega) | (rw [k0_eq (by omega)] <;> omega) | (rw [k0_ne (by omega)] <;> omega)) ?_
                refine z_run 400 hk rfl ?_
                refine z_icF rfl (kx_same) ?_
                exact at356 _ _ _ _ (Or.inr ⟨rfl, hpn⟩)
          refine z_run 400 hk rfl ?_
          refine z_ifF rfl (by first | (rw [k0_lt (by omega)] <;> omega) | (rw [k0_ge (by omega)] <;> omega) | (rw [k0_gt (by omega)] <;> omega) | (rw [k0_le (by omega)] <;> omega) | (rw [k0_eq (by omega)] <;> omega) | (rw [k0_ne (by omega)] <;> omega)) ?_
          refine z_run 400 hk rfl ?_
          by_cases hi0 : i = 0
          · rw [show w = -1 by rw [← hw, hi0]; decide]
            refine z_ifT rfl ((show (-1 : Int32) < 0 by decide)) ?_
            rw [show w = -1 by rw [← hw, hi0]; decide] at hto bad276 h276
            exact bad276 (by rw [← hto]; exact wf_bad hpn o6 (by decide)) h276
          · have hw1 : w = nI (i - 1) := by rw [← hw, pk_sub (by omega)]
            rw [hw1] at hto bad276 h276 ⊢
            refine z_ifF rfl (by first | (rw [k0_lt (by omega)] <;> omega) | (rw [k0_ge (by omega)] <;> omega) | (rw [k0_gt (by omega)] <;> omega) | (rw [k0_le (by omega)] <;> omega) | (rw [k0_eq (by omega)] <;> omega) | (rw [k0_ne (by omega)] <;> omega)) ?_
            refine z_run 400 hk rfl ?_
            by_cases hi4 : i = 4
            · refine z_icF rfl (by first | exact kx_same | exact kx_eq | (rw [k_lt (by omega) (by omega)] <;> omega) | (rw [k_ge (by omega) (by omega)] <;> omega) | (rw [k_gt (by omega) (by omega)] <;> omega) | (rw [k_le (by omega) (by omega)] <;> omega) | (rw [k_eq (by omega) (by omega)] <;> omega) | (rw [k_ne (by omega) (by omega)] <;> omega)) ?_
              exact bad276 (by rw [← hto]; exact wf_bad hpn o6 (by rw [iN_nI (by omega)]; omega)) h276
            · refine z_icT rfl (by first | exact kx_same | exact kx_eq | (rw [k_lt (by omega) (by omega)] <;> omega) | (rw [k_ge (by omega) (by omega)] <;> omega) | (rw [k_gt (by omega) (by omega)] <;> omega) | (rw [k_le (by omega) (by omega)] <;> omega) | (rw [k_eq (by omega) (by omega)] <;> omega) | (rw [k_ne (by omega) (by omega)] <;> omega)) ?_
              refine z_run 400 hk rfl ?_
              refine z_ifT rfl (by first | (rw [k0_lt (by omega)] <;> omega) | (rw [k0_ge (by omega)] <;> omega) | (rw [k0_gt (by omega)] <;> omega) | (rw [k0_le (by omega)] <;> omega) | (rw [k0_eq (by omega)] <;> omega) | (rw [k0_ne (by omega)] <;> omega)) ?_
              refine z_run 400 hk rfl ?_
              have h3 : i = 1 ∨ i = 2 ∨ i = 3 := by omega
              rcases h3 with rfl | rfl | rfl
              · refine z_ifF rfl (by first | (rw [k0_lt (by omega)] <;> omega) | (rw [k0_ge (by omega)] <;> omega) | (rw [k0_gt (by omega)] <;> omega) | (rw [k0_le (by omega)] <;> omega) | (rw [k0_eq (by omega)] <;> omega) | (rw [k0_ne (by omega)] <;> omega)) ?_
                refine z_run 400 hk rfl ?_
                cases ho : XO (vX V 0 (vTT V 0)) p with
                | true =>
                  rw [ho, if_pos rfl] at hlz
                  rw [show told = -1000004 by rw [← hto]; exact wf_0O hkV hpn hin ho] at h276 ⊢
                  refine z_ifF rfl (by first | (rw [k0_lt (by omega)] <;> omega) | (rw [k0_ge (by omega)] <;> omega) | (rw [k0_gt (by omega)] <;> omega) | (rw [k0_le (by omega)] <;> omega) | (rw [k0_eq (by omega)] <;> omega) | (rw [k0_ne (by omega)] <;> omega)) ?_
                  refine z_run 400 hk rfl ?_
                  refine z_icF rfl (kx_same) ?_
                  refine z_to 276 400 hk rfl ?_
                  exact h276
                | false =>
                  rw [ho, if_neg (by decide)] at hlz
                  obtain ⟨q, hq1, hq2⟩ := wf_0S hkV hpn hin ho
                  rw [show told = nI q by rw [← hto]; exact hq2] at h276 ⊢
                  refine z_ifT rfl (by first | (rw [k0_lt (by omega)] <;> omega) | (rw [k0_ge (by omega)] <;> omega) | (rw [k0_gt (by omega)] <;> omega) | (rw [k0_le (by omega)] <;> omega) | (rw [k0_eq (by omega)] <;> omega) | (rw [k0_ne (by omega)] <;> omega)) ?_
                  refine z_run 400 hk rfl ?_
                  refine z_ifF rfl (by first | (rw [k0_lt (by omega)] <;> omega) | (rw [k0_ge (by omega)] <;> omega) | (rw [k0_gt (by omega)] <;> omega) | (rw [k0_le (by omega)] <;> omega) | (rw [k0_eq (by omega)] <;> omega) | (rw [k0_ne (by omega)] <;> omega)) ?_
                  refine z_run 400 hk rfl ?_
                  rw [e1]
                  refine z_icF rfl (by first | exact kx_same | exact kx_eq | (rw [k_lt (by omega) (by omega)] <;> omega) | (rw [k_ge (by omega) (by omega)] <;> omega) | (rw [k_gt (by omega) (by omega)] <;> omega) | (rw [k_le (by omega) (by omega)] <;> omega) | (rw [k_eq (by omega) (by omega)] <;> omega) | (rw [k_ne (by omega) (by omega)] <;> omega)) ?_
                  refine z_to 276 400 hk rfl ?_
                  exact h276
              · obtain ⟨b1, b2⟩ := wf_B hkV hpn hin
                rw [show told = nI (XB (vX V 0 (vTT V 0)) p) by rw [← hto]; exact wf_1 hkV hpn hin] at h276 ⊢
                generalize XB (vX V 0 (vTT V 0)) p = bb at *
                refine z_ifT rfl (by first | (rw [k0_lt (by omega)] <;> omega) | (rw [k0_ge (by omega)] <;> omega) | (rw [k0_gt (by omega)] <;> omega) | (rw [k0_le (by omega)] <;> omega) | (rw [k0_eq (by omega)] <;> omega) | (rw [k0_ne (by omega)] <;> omega)) ?_
                refine z_run 400 hk rfl ?_
                refine z_icF rfl (by first | exact kx_same | exact kx_eq | (rw [k_lt (by omega) (by omega)] <;> omega) | (rw [k_ge (by omega) (by omega)] <;> omega) | (rw [k_gt (by omega) (by omega)] <;> omega) | (rw [k_le (by omega) (by omega)] <;> omega) | (rw [k_eq (by omega) (by omega)] <;> omega) | (rw [k_ne (by omega) (by omega)] <;> omega)) ?_
                refine z_run 400 hk rfl ?_
                cases ho : XO (vX V 0 (vTT V 0)) p with
                | true =>
                  rw [ho, if_pos rfl] at hlz
                  have := b2 ho
                  refine z_ifF rfl (by first | (rw [k0_lt (by omega)] <;> omega) | (rw [k0_ge (by omega)] <;> omega) | (rw [k0_gt (by omega)] <;> omega) | (rw [k0_le (by omega)] <;> omega) | (rw [k0_eq (by omega)] <;> omega) | (rw [k0_ne (by omega)] <;> omega)) ?_
                  refine z_run 400 hk rfl ?_
                  refine z_icF rfl (by first | exact kx_same | exact kx_eq | (rw [k_lt (by omega) (by omega)] <;> omega) | (rw [k_ge (by omega) (by omega)] <;> omega) | (rw [k_gt (by omega) (by omega)] <;> omega) | (rw [k_le (by omega) (by omega)] <;> omega) | (rw [k_eq (by omega) (by omega)] <;> omega) | (rw [k_ne (by omega) (by omega)] <;> omega)) ?_
                  refine z_run 400 hk rfl ?_
                  rw [e1]
                  refine z_icF rfl (by first | exact kx_same | exact kx_eq | (rw [k_lt (by omega) (by omega)] <;> omega) | (rw [k_ge (by omega) (by omega)] <;> omega) | (rw [k_gt (by omega) (by omega)] <;> omega) | (rw [k_le (by omega) (by omega)] <;> omega) | (rw [k_eq (by omega) (by omega)] <;> omega) | (rw [k_ne (by omega) (by omega)] <;> omega)) ?_
                  refine z_to 276 400 hk rfl ?_
                  exact h276
                | false =>
                  rw [ho, if_neg (by decide)] at hlz
                  refine z_ifT rfl (by first | (rw [k0_lt (by omega)] <;> omega) | (rw [k0_ge (by omega)] <;> omega) | (rw [k0_gt (by omega)] <;> omega) | (rw [k0_le (by omega)] <;> omega) | (rw [k0_eq (by omega)] <;> omega) | (rw [k0_ne (by omega)] <;> omega)) ?_
                  refine z_run 400 hk rfl ?_
                  refine z_icF rfl (by first | exact kx_same | exact kx_eq | (rw [k_lt (by omega) (by omega)] <;> omega) | (rw [k_ge (by omega) (by omega)] <;> omega) | (rw [k_gt (by omega) (by omega)] <;> omega) | (rw [k_le (by omega) (by omega)] <;> omega) | (rw [k_eq (by omega) (by omega)] <;> omega) | (rw [k_ne (by omega) (by omega)] <;> omega)) ?_
                  refine z_run 400 hk rfl ?_
                  rw [e1]
                  refine z_icF rfl (by first | exact kx_same | exact kx_eq | (rw [k_lt (by omega) (by omega)] <;> omega) | (rw [k_ge (by omega) (by omega)] <;> omega) | (rw [k_gt (by omega) (by omega)] <;> omega) | (rw [k_le (by omega) (by omega)] <;> omega) | (rw [k_eq (by omega) (by omega)] <;> omega) | (rw [k_ne (by omega) (by omega)] <;> omega)) ?_
                  refine z_to 276 400 hk rfl ?_
                  exact h276
              · obtain ⟨b1, b2, b3⟩ := wf_T hkV hpn hin
                rw [show told = nI (XT (vX V 0 (vTT V 0)) p) by rw [← hto]; exact wf_2 hkV hpn hin] at h276 ⊢
                generalize XT (vX V 0 (vTT V 0)) p = bb at *
                refine z_ifT rfl (by first | (rw [k0_lt (by omega)] <;> omega) | (rw [k0_ge (by omega)] <;> omega) | (rw [k0_gt (by omega)] <;> omega) | (rw [k0_le (by omega)] <;> omega) | (rw [k0_eq (by omega)] <;> omega) | (rw [k0_ne (by omega)] <;> omega)) ?_
                refine z_run 400 hk rfl ?_
                refine z_icT rfl (by first | exact kx_same | exact kx_eq | (rw [k_lt (by omega) (by omega)] <;> omega) | (rw [k_ge (by omega) (by omega)] <;> omega) | (rw [k_gt (by omega) (by omega)] <;> omega) | (rw [k_le (by omega) (by omega)] <;> omega) | (rw [k_eq (by omega) (by omega)] <;> omega) | (rw [k_ne (by omega) (by omega)] <;> omega)) ?_
                refine z_run 400 hk rfl ?_
                cases ho : XO (vX V 0 (vTT V 0)) p with
                | true =>
                  rw [ho, if_pos rfl] at hlz
                  have := b3 ho
                  refine z_ifF rfl (by first | (rw [k0_lt (by omega)] <;> omega) | (rw [k0_ge (by omega)] <;> omega) | (rw [k0_gt (by omega)] <;> omega) | (rw [k0_le (by omega)] <;> omega) | (rw [k0_eq (by omega)] <;> omega) | (rw [k0_ne (by omega)] <;> omega)) ?_
                  refine z_run 400 hk rfl ?_
                  refine z_icF rfl (by first | exact kx_same | exact kx_eq | (rw [k_lt (by omega) (by omega)] <;> omega) | (rw [k_ge (by omega) (by omega)] <;> omega) | (rw [k_gt (by omega) (by omega)] <;> omega) | (rw [k_le (by omega) (by omega)] <;> omega) | (rw [k_eq (by omega) (by omega)] <;> omega) | (rw [k_ne (by omega) (by omega)] <;> omega)) ?_
                  refine z_run 400 hk rfl ?_
                  rw [e1, nI_add]
                  refine z_icF rfl (by first | exact kx_same | exact kx_eq | (rw [k_lt (by omega) (by omega)] <;> omega) | (rw [k_ge (by omega) (by omega)] <;> omega) | (rw [k_gt (by omega) (by omega)] <;> omega) | (rw [k_le (by omega) (by omega)] <;> omega) | (rw [k_eq (by omega) (by omega)] <;> omega) | (rw [k_ne (by omega) (by omega)] <;> omega)) ?_
                  exact h276
                | false =>
                  rw [ho, if_neg (by decide)] at hlz
                  refine z_ifT rfl (by first | (rw [k0_lt (by omega)] <;> omega) | (rw [k0_ge (by omega)] <;> omega) | (rw [k0_gt (by omega)] <;> omega) | (rw [k0_le (by omega)] <;> omega) | (rw [k0_eq (by omega)] <;> omega) | (rw [k0_ne (by omega)] <;> omega)) ?_
                  refine z_run 400 hk rfl ?_
                  refine z_icF rfl (by first | exact kx_same | exact kx_eq | (rw [k_lt (by omega) (by omega)] <;> omega) | (rw [k_ge (by omega) (by omega)] <;> omega) | (rw [k_gt (by omega) (by omega)] <;> omega) | (rw [k_le (by omega) (by omega)] <;> omega) | (rw [k_eq (by omega) (by omega)] <;> omega) | (rw [k_ne (by omega) (by omega)] <;> omega)) ?_
                  refine z_run 400 hk rfl ?_
                  rw [e1, nI_add]
                  refine z_icF rfl (by first | exact kx_same | exact kx_eq | (rw [k_lt (by omega) (by omega)] <;> omega) | (rw [k_ge (by omega) (by omega)] <;> omega) | (rw [k_gt (by omega) (by omega)] <;> omega) | (rw [k_le (by omega) (by omega)] <;> omega) | (rw [k_eq (by omega) (by omega)] <;> omega) | (rw [k_ne (by omega) (by omega)] <;> omega)) ?_
                  exact h276
      refine z_run 400 hk rfl ?_
      by_cases h1 : vph V = 1
      · have ho := wo_1 h1
        rw [hou] at ho
        suffices F : ∀ y : Int32, y = outs → Zx (d + 5) m_Law_would Q 116 (wL x (vn V) p w told safe y pl hears (some (.int (nI no))) (some (.int (nI nt))) none none) [.int y] T from F _ rfl
        intro y hy
        rw [ho] at hy
        rw [hy]
        have h31 := enc_31 (f := XO (vX V 0 (vTT V 0))) (n := vn V) (by omega)
        refine z_ifF rfl (by first | (rw [k0_lt (by omega)] <;> omega) | (rw [k0_ge (by omega)] <;> omega) | (rw [k0_gt (by omega)] <;> omega) | (rw [k0_le (by omega)] <;> omega) | (rw [k0_eq (by omega)] <;> omega) | (rw [k0_ne (by omega)] <;> omega)) ?_
        refine z_run 400 hk rfl ?_
        rw [enc_bit (by omega) (by omega)]
        by_cases hpo : (decide (p < vn V) && XO (vX V 0 (vTT V 0)) p) = true
        · rw [if_pos hpo]
          refine z_icF rfl (by first | exact kx_same | exact kx_eq | (rw [k_lt (by omega) (by omega)] <;> omega) | (rw [k_ge (by omega) (by omega)] <;> omega) | (rw [k_gt (by omega) (by omega)] <;> omega) | (rw [k_le (by omega) (by omega)] <;> omega) | (rw [k_eq (by omega) (by omega)] <;> omega) | (rw [k_ne (by omega) (by omega)] <;> omega)) ?_
          refine z_to 136 400 hk rfl ?_
          rw [← ho]
          exact at136 1 (fun z => by
            rw [Bool.and_eq_true] at hpo
            rw [if_pos hpo.2])
        · rw [if_neg hpo]
          refine z_icT rfl (by first | exact kx_same | exact kx_eq | (rw [k_lt (by omega) (by omega)] <;> omega) | (rw [k_ge (by omega) (by omega)] <;> omega) | (rw [k_gt (by omega) (by omega)] <;> omega) | (rw [k_le (by omega) (by omega)] <;> omega) | (rw [k_eq (by omega) (by omega)] <;> omega) | (rw [k_ne (by omega) (by omega)] <;> omega)) ?_
          refine z_to 136 400 hk rfl ?_
          rw [← ho]
          exact at136 0 (fun z => by
            rw [Bool.and_eq_true, decide_eq_true_eq] at hpo
            rw [if_neg (fun w => hpo ⟨z.2.2, w⟩)])
      · rw [show outs = -1000002 by rw [← hou]; exact wo_0 h1] at at136 ⊢
        refine z_ifT rfl ((show (-1000002 : Int32) < 0 by decide)) ?_
        refine z_to 136 400 hk rfl ?_
        exact at136 0 (fun z => absurd z.1 h1)
    refine z_run 400 hk rfl ?_
    by_cases hpn : p = vn V
    · refine z_icF rfl (by first | exact kx_same | exact kx_eq | (rw [k_lt (by omega) (by omega)] <;> omega) | (rw [k_ge (by omega) (by omega)] <;> omega) | (rw [k_gt (by omega) (by omega)] <;> omega) | (rw [k_le (by omega) (by omega)] <;> omega) | (rw [k_eq (by omega) (by omega)] <;> omega) | (rw [k_ne (by omega) (by omega)] <;> omega)) ?_
      refine z_run 400 hk rfl ?_
      refine z_ifT rfl (by first | (rw [k0_lt (by omega)] <;> omega) | (rw [k0_ge (by omega)] <;> omega) | (rw [k0_gt (by omega)] <;> omega) | (rw [k0_le (by omega)] <;> omega) | (rw [k0_eq (by omega)] <;> omega) | (rw [k0_ne (by omega)] <;> omega)) ?_
      refine z_to 114 400 hk rfl ?_
      exact at114 1 0 (Or.inl ⟨rfl, hpn, rfl⟩)
    · refine z_icT rfl (by first | exact kx_same | exact kx_eq | (rw [k_lt (by omega) (by omega)] <;> omega) | (rw [k_ge (by omega) (by omega)] <;> omega) | (rw [k_gt (by omega) (by omega)] <;> omega) | (rw [k_le (by omega) (by omega)] <;> omega) | (rw [k_eq (by omega) (by omega)] <;> omega) | (rw [k_ne (by omega) (by omega)] <;> omega)) ?_
      refine z_run 400 hk rfl ?_
      refine z_ifF rfl (by first | (rw [k0_lt (by omega)] <;> omega) | (rw [k0_ge (by omega)] <;> omega) | (rw [k0_gt (by omega)] <;> omega) | (rw [k0_le (by omega)] <;> omega) | (rw [k0_eq (by omega)] <;> omega) | (rw [k0_ne (by omega)] <;> omega)) ?_
      refine z_run 400 hk rfl ?_
      rw [e0]
      by_cases h1 : vph V = 1
      · refine z_icF rfl (by first | exact kx_same | exact kx_eq | (rw [k_lt (by omega) (by omega)] <;> omega) | (rw [k_ge (by omega) (by omega)] <;> omega) | (rw [k_gt (by omega) (by omega)] <;> omega) | (rw [k_le (by omega) (by omega)] <;> omega) | (rw [k_eq (by omega) (by omega)] <;> omega) | (rw [k_ne (by omega) (by omega)] <;> omega)) ?_
        refine z_run 400 hk rfl ?_
        cases hin : vin V p with
        | true =>
          have q2 : qPlayer (tV T) (nI p) (nI 2) = nI 1 := by rw [hV]; exact qp2T (by omega) o6 hin
          rw [q2]
          refine z_ifT rfl (by first | (rw [k0_lt (by omega)] <;> omega) | (rw [k0_ge (by omega)] <;> omega) | (rw [k0_gt (by omega)] <;> omega) | (rw [k0_le (by omega)] <;> omega) | (rw [k0_eq (by omega)] <;> omega) | (rw [k0_ne (by omega)] <;> omega)) ?_
          refine z_to 114 400 hk rfl ?_
          exact at114 0 0 (Or.inr (Or.inr ⟨rfl, by omega, rfl, h1, hin⟩))
        | false =>
          have q2 : qPlayer (tV T) (nI p) (nI 2) = nI 0 := by rw [hV]; exact qp2F (by omega) o6 hin
          rw [q2]
          refine z_ifF rfl (by first | (rw [k0_lt (by omega)] <;> omega) | (rw [k0_ge (by omega)] <;> omega) | (rw [k0_gt (by omega)] <;> omega) | (rw [k0_le (by omega)] <;> omega) | (rw [k0_eq (by omega)] <;> omega) | (rw [k0_ne (by omega)] <;> omega)) ?_
          refine z_to 114 400 hk rfl ?_
          exact at114 0 1 (Or.inr (Or.inl ⟨rfl, by omega, rfl, fun z => by rw [hin] at z; cases z.2⟩))
      · refine z_icT rfl (by first | exact kx_same | exact kx_eq | (rw [k_lt (by omega) (by omega)] <;> omega) | (rw [k_ge (by omega) (by omega)] <;> omega) | (rw [k_gt (by omega) (by omega)] <;> omega) | (rw [k_le (by omega) (by omega)] <;> omega) | (rw [k_eq (by omega) (by omega)] <;> omega) | (rw [k_ne (by omega) (by omega)] <;> omega)) ?_
        refine z_to 114 400 hk rfl ?_
        exact at114 0 1 (Or.inr (Or.inl ⟨rfl, by omega, rfl, fun z => h1 z.1⟩))
  refine z_run 400 hk rfl ?_
  rw [e2, nI_add]
  refine z_ins rfl rfl rfl rfl (l_low d T _ _ _ hk (by omega) (by omega) ?_)
  refine z_run 400 hk rfl ?_
  refine z_ins rfl rfl rfl rfl (l_low d T _ _ _ hk (by omega) (by omega) ?_)
  refine z_run 400 hk rfl ?_
  rw [e1, nI_add]
  refine z_ins rfl rfl rfl rfl (l_low d T _ _ _ hk (by omega) (by omega) ?_)
  refine z_to 72 400 hk rfl ?_
  rw [hV]
  exact main _ _ _ (Nat.le_of_lt_succ (lo_lt (by omega))) (lo_lt (by omega)) (Nat.le_of_lt_succ (lo_lt (by omega)))
