/-! ===== the law in the picture ===== -/
theorem lg_same (x : Int64) : lg_cmp x x = nI 0 := by simp [lg_cmp]; rfl
theorem tA_undo {T : xT} {n : Nat} (h : tA T n) : tA (pUndo T) n := by
  refine ⟨tOk_undo h.1, ?_, tJ_undo h.2.2⟩
  obtain ⟨h1, h2⟩ := h.2.1
  unfold pUndo
  split
  · exact ⟨h1, h2⟩
  · rename_i hk
    exact ⟨h2 0 (by omega), fun a ha => h2 (a + 1) (by have ha : a < tK T - 1 := ha; omega)⟩
theorem tA_R {T : xT} {n : Nat} (h : tA T n) : (vR (tV T)).1 ≤ 12 := h.2.2.1.2.2.2.2.2.2.1.2
section LW
variable {Ls : Option (Nat × (Nat → Int32))} {Q : xQ} {T : xT} {pc : Nat} {L : xL} {r : List Value} {ln i n : Nat}
theorem y_holds (hA : tA T n) (hn : n < 500) (h : x_at m_law.2.2.2.2 pc = some (.invokestatic i, ln, i_Law_holds, 1)) (hc : Nat.ble ((r.map fun v => v.category).sum) 8 = true) (k : Lz 10 m_law Ls Q (pc + ln) L (.int (nI 1) :: r) T) : Lz 10 m_law Ls Q pc L (.ref 1 :: r) T :=
  y_ins h rfl rfl hc (zz_holds 4 (1020 * n) (60 * n) T _ hA.1 hA.2.1.1 (by omega) hA.2.2.1 (by omega) k)
theorem y_would {x : Int32} (hA : tA T n) (h : x_at m_law.2.2.2.2 pc = some (.invokestatic i, ln, i_Law_would, 2)) (hc : Nat.ble ((r.map fun v => v.category).sum) 8 = true) (k : Lz 10 m_law Ls Q (pc + ln) L (.int (nI 1) :: r) T) : Lz 10 m_law Ls Q pc L (.int x :: .ref 1 :: r) T :=
  y_ins h rfl rfl hc (zz_would 4 T x _ hA.1 k)
theorem y_look (hA : tA T n) (h : x_at m_law.2.2.2.2 pc = some (.invokestatic i, ln, i_Law_look, 1)) (hc : Nat.ble ((r.map fun v => v.category).sum) 8 = true) (k : Lz 10 m_law Ls Q (pc + ln) L (.long (lk T) :: r) T) : Lz 10 m_law Ls Q pc L (.ref 1 :: r) T :=
  y_ins h rfl rfl hc (l_look 5 T _ hA.1 (tA_R hA) k)
theorem y_low {v : Int32} {m : Nat} (hA : tA T n) (hm : 0 < m) (hm2 : m < 2 ^ 31) (h : x_at m_law.2.2.2.2 pc = some (.invokestatic i, ln, i_Law_low, 2)) (hc : Nat.ble ((r.map fun v => v.category).sum) 8 = true) (k : Lz 10 m_law Ls Q (pc + ln) L (.int (nI (lo v m)) :: r) T) : Lz 10 m_law Ls Q pc L (.int (nI m) :: .int v :: r) T :=
  y_ins h rfl rfl hc (l_low 5 T v m _ hA.1 hm hm2 k)
theorem y_acts {x y : Int32} (hA : tA T n) (hn : n < 1000) (h : x_at m_law.2.2.2.2 pc = some (.invokestatic i, ln, i_Law_acts, 3)) (hc : Nat.ble ((r.map fun v => v.category).sum) 8 = true) (k : ∀ T', tS T T' → tA T' (n + 1) → Lz 10 m_law Ls Q (pc + ln) L (.int (nI 1) :: r) T') : Lz 10 m_law Ls Q pc L (.int y :: .int x :: .ref 1 :: r) T :=
  y_ins h rfl rfl hc (zz_acts 1 n T x y _ hA hn k)
theorem y_undo (hA : tA T n) (h : x_at m_law.2.2.2.2 pc = some (.invokevirtual i, ln, i_Bc_undo, 0)) (hc : Nat.ble ((r.map fun v => v.category).sum) 8 = true) (k : Lz 10 m_law Ls Q (pc + ln) L (.int (aUndo T) :: r) (pUndo T)) : Lz 10 m_law Ls Q pc L (.ref 1 :: r) T :=
  y_inv h rfl hc (fun g hg => s_undo 6 T g _ hg hA.1 (fun g' hg' _ => k g' hg'))
end LW
set_option maxRecDepth 100000 in
set_option maxHeartbeats 16000000 in
theorem zz_loop (len : Nat) (a : Nat → Int32) (Q : xQ) (hl : len ≤ 260) (hQ : ∀ g, Q (some (.int (nI 1))) g) : ∀ n, n ≤ 56 → ∀ T l4 l5 l6 l7 l8 l9 l10, tA T n → Lz 10 m_law (some (len, a)) Q 40 [some (.ref 0), some (.ref 1), some (.int (nI 1)), some (.int (nI n)), l4, l5, l6, l7, l8, l9, l10] [] T := by
  refine r_for ?_ ?_
  · intro T l4 l5 l6 l7 l8 l9 l10 hA
    have hk := hA.1
    refine y_run 400 hk rfl ?_
    refine y_icT rfl (by first | exact kx_same | exact kx_eq | (rw [k_lt (by omega) (by omega)] <;> omega) | (rw [k_ge (by omega) (by omega)] <;> omega) | (rw [k_gt (by omega) (by omega)] <;> omega) | (rw [k_le (by omega) (by omega)] <;> omega) | (rw [k_eq (by omega) (by omega)] <;> omega) | (rw [k_ne (by omega) (by omega)] <;> omega)) ?_
    refine y_run 400 hk rfl ?_
    refine y_ifF rfl (by first | (rw [k0_lt (by omega)] <;> omega) | (rw [k0_ge (by omega)] <;> omega) | (rw [k0_gt (by omega)] <;> omega) | (rw [k0_le (by omega)] <;> omega) | (rw [k0_eq (by omega)] <;> omega) | (rw [k0_ne (by omega)] <;> omega)) ?_
    refine y_run 400 hk rfl ?_
    refine y_holds hA (by omega) rfl rfl ?_
    refine y_run 400 hk rfl ?_
    refine y_ifF rfl (by first | (rw [k0_lt (by omega)] <;> omega) | (rw [k0_ge (by omega)] <;> omega) | (rw [k0_gt (by omega)] <;> omega) | (rw [k0_le (by omega)] <;> omega) | (rw [k0_eq (by omega)] <;> omega) | (rw [k0_ne (by omega)] <;> omega)) ?_
    refine y_run 400 hk rfl ?_
    exact y_zret rfl rfl (by decide) (fun g _ => hQ g)
  · intro n hn ih T l4 l5 l6 l7 l8 l9 l10 hA
    have hk := hA.1
    have hK := hk.2.1
    -- the next turn
    have at308 : ∀ T' l4 l5 l6 l7 l8 l9 l10, tA T' (n + 1) → Lz 10 m_law (some (len, a)) Q 308 [some (.ref 0), some (.ref 1), some (.int (nI 1)), some (.int (nI n)), l4, l5, l6, l7, l8, l9, l10] [] T' := by
      intro T' l4 l5 l6 l7 l8 l9 l10 hA'
      have hk := hA'.1
      refine y_to 40 400 hk rfl ?_
      have := ih T' l4 l5 l6 l7 l8 l9 l10 hA'
      rw [← nI_add n 1] at this
      exact this
    -- taken back at the ninth
    have at260 : ∀ T' l4 l5 l6 l7 (l8 l9 : Int32) l10, tA T' (n + 1) → Lz 10 m_law (some (len, a)) Q 260 [some (.ref 0), some (.ref 1), some (.int (nI 1)), some (.int (nI n)), l4, l5, l6, l7, some (.int l8), some (.int l9), l10] [] T' := by
      intro T' l4 l5 l6 l7 l8 l9 l10 hA'
      have hk := hA'.1
      have hK := hk.2.1
      refine y_run 400 hk rfl ?_
      refine y_ifF rfl (by first | (rw [k0_lt (by omega)] <;> omega) | (rw [k0_ge (by omega)] <;> omega) | (rw [k0_gt (by omega)] <;> omega) | (rw [k0_le (by omega)] <;> omega) | (rw [k0_eq (by omega)] <;> omega) | (rw [k0_ne (by omega)] <;> omega)) ?_
      refine y_run 400 hk rfl ?_
      refine y_remN rfl (by omega) (by omega) (by omega) ?_
      refine y_run 400 hk rfl ?_
      by_cases h9 : n % 9 = 8
      · refine y_icF rfl (by first | exact kx_same | exact kx_eq | (rw [k_lt (by omega) (by omega)] <;> omega) | (rw [k_ge (by omega) (by omega)] <;> omega) | (rw [k_gt (by omega) (by omega)] <;> omega) | (rw [k_le (by omega) (by omega)] <;> omega) | (rw [k_eq (by omega) (by omega)] <;> omega) | (rw [k_ne (by omega) (by omega)] <;> omega)) ?_
        refine y_run 400 hk rfl ?_
        refine y_undo hA' rfl rfl ?_
        rw [qc14]
        have hA2 := tA_undo hA'
        have hu : aUndo T' = if tK T' = 0 then -1000002 else nI (tK T' - 1) := rfl
        generalize hT2 : pUndo T' = T2 at *
        have hk := hA2.1
        refine y_run 400 hk rfl ?_
        by_cases h0 : tK T' = 0
        · rw [hu, if_pos h0]
          refine y_ifF rfl (by first | (rw [k0_lt (by omega)] <;> omega) | (rw [k0_ge (by omega)] <;> omega) | (rw [k0_gt (by omega)] <;> omega) | (rw [k0_le (by omega)] <;> omega) | (rw [k0_eq (by omega)] <;> omega) | (rw [k0_ne (by omega)] <;> omega)) ?_
          refine y_run 400 hk rfl ?_
          refine y_icF rfl (kx_same) ?_
          refine y_to 308 400 hk rfl ?_
          exact at308 T2 _ _ _ _ _ _ _ hA2
        · rw [hu, if_neg h0]
          refine y_ifT rfl (by first | (rw [k0_lt (by omega)] <;> omega) | (rw [k0_ge (by omega)] <;> omega) | (rw [k0_gt (by omega)] <;> omega) | (rw [k0_le (by omega)] <;> omega) | (rw [k0_eq (by omega)] <;> omega) | (rw [k0_ne (by omega)] <;> omega)) ?_
          refine y_run 400 hk rfl ?_
          rw [pk_sub (by omega)]
          refine y_icF rfl (kx_same) ?_
          refine y_to 308 400 hk rfl ?_
          exact at308 T2 _ _ _ _ _ _ _ hA2
      · refine y_icT rfl (by first | exact kx_same | exact kx_eq | (rw [k_lt (by omega) (by omega)] <;> omega) | (rw [k_ge (by omega) (by omega)] <;> omega) | (rw [k_gt (by omega) (by omega)] <;> omega) | (rw [k_le (by omega) (by omega)] <;> omega) | (rw [k_eq (by omega) (by omega)] <;> omega) | (rw [k_ne (by omega) (by omega)] <;> omega)) ?_
        exact at308 T' _ _ _ _ _ _ _ hA'
    -- behind the act
    have at159 : ∀ T' (x y : Int32) l9 l10, tS T T' → tA T' (n + 1) → Lz 10 m_law (some (len, a)) Q 154 [some (.ref 0), some (.ref 1), some (.int (nI 1)), some (.int (nI n)), some (.int x), some (.int y), some (.long (lk T)), none, some (.int (nI (tK T))), l9, l10] [] T' := by
      intro T' x y l9 l10 hS' hA'
      have hk := hA'.1
      have hK' := hk.2.1
      have at204 : ∀ l10, Lz 10 m_law (some (len, a)) Q 204 [some (.ref 0), some (.ref 1), some (.int (nI 1)), some (.int (nI n)), some (.int x), some (.int y), some (.long (lk T)), none, some (.int (nI (tK T))), some (.int (nI (tK T'))), l10] [] T' := by
        intro l10
        refine y_run 400 hk rfl ?_
        refine y_ifF rfl (by first | (rw [k0_lt (by omega)] <;> omega) | (rw [k0_ge (by omega)] <;> omega) | (rw [k0_gt (by omega)] <;> omega) | (rw [k0_le (by omega)] <;> omega) | (rw [k0_eq (by omega)] <;> omega) | (rw [k0_ne (by omega)] <;> omega)) ?_
        refine y_run 400 hk rfl ?_
        rw [nI_add]
        by_cases hk1 : tK T' = tK T + 1
        · refine y_icF rfl (by first | exact kx_same | exact kx_eq | (rw [k_lt (by omega) (by omega)] <;> omega) | (rw [k_ge (by omega) (by omega)] <;> omega) | (rw [k_gt (by omega) (by omega)] <;> omega) | (rw [k_le (by omega) (by omega)] <;> omega) | (rw [k_eq (by omega) (by omega)] <;> omega) | (rw [k_ne (by omega) (by omega)] <;> omega)) ?_
          refine y_run 400 hk rfl ?_
          refine y_low hA' (by omega) (by omega) rfl rfl ?_
          have h3 : lo (y >>> (nI 8 &&& 31)) 3 < 3 := lo_lt (by omega)
          generalize lo (y >>> (nI 8 &&& 31)) 3 = z at *
          by_cases h0 : z = 0
          · refine y_ifF rfl (by first | (rw [k0_lt (by omega)] <;> omega) | (rw [k0_ge (by omega)] <;> omega) | (rw [k0_gt (by omega)] <;> omega) | (rw [k0_le (by omega)] <;> omega) | (rw [k0_eq (by omega)] <;> omega) | (rw [k0_ne (by omega)] <;> omega)) ?_
            refine y_run 400 hk rfl ?_
            refine y_undo hA' rfl rfl ?_
            have hA2 := tA_undo hA'
            have hu : aUndo T' = nI (tK T) := by
              show (if tK T' = 0 then -1000002 else nI (tK T' - 1)) = _
              rw [if_neg (by omega), hk1]
              rfl
            have hV2 : tV (pUndo T') = tV T := by
              rcases hS' with ⟨-, z1, -⟩ | ⟨z1, z2⟩
              · omega
              · unfold pUndo
                rw [if_neg (by omega)]
                show tH T' 0 = _
                rw [z2]
                rfl
            rw [hu]
            generalize hT2 : pUndo T' = T2 at *
            have hk := hA2.1
            refine y_run 400 hk rfl ?_
            refine y_icF rfl (kx_same) ?_
            refine y_run 400 hk rfl ?_
            refine y_look hA2 rfl rfl ?_
            rw [lk_V hV2]
            refine y_run 400 hk rfl ?_
            refine y_lcmp rfl ?_
            rw [lg_same]
            refine y_ifF rfl (by first | (rw [k0_lt (by omega)] <;> omega) | (rw [k0_ge (by omega)] <;> omega) | (rw [k0_gt (by omega)] <;> omega) | (rw [k0_le (by omega)] <;> omega) | (rw [k0_eq (by omega)] <;> omega) | (rw [k0_ne (by omega)] <;> omega)) ?_
            refine y_to 260 400 hk rfl ?_
            exact at260 T2 _ _ _ _ _ _ _ hA2
          · refine y_ifT rfl (by first | (rw [k0_lt (by omega)] <;> omega) | (rw [k0_ge (by omega)] <;> omega) | (rw [k0_gt (by omega)] <;> omega) | (rw [k0_le (by omega)] <;> omega) | (rw [k0_eq (by omega)] <;> omega) | (rw [k0_ne (by omega)] <;> omega)) ?_
            exact at260 T' _ _ _ _ _ _ _ hA'
        · refine y_icT rfl (by first | exact kx_same | exact kx_eq | (rw [k_lt (by omega) (by omega)] <;> omega) | (rw [k_ge (by omega) (by omega)] <;> omega) | (rw [k_gt (by omega) (by omega)] <;> omega) | (rw [k_le (by omega) (by omega)] <;> omega) | (rw [k_eq (by omega) (by omega)] <;> omega) | (rw [k_ne (by omega) (by omega)] <;> omega)) ?_
          exact at260 T' _ _ _ _ _ _ _ hA'
      refine y_run 400 hk rfl ?_
      rw [qc14]
      refine y_ifF rfl (by first | (rw [k0_lt (by omega)] <;> omega) | (rw [k0_ge (by omega)] <;> omega) | (rw [k0_gt (by omega)] <;> omega) | (rw [k0_le (by omega)] <;> omega) | (rw [k0_eq (by omega)] <;> omega) | (rw [k0_ne (by omega)] <;> omega)) ?_
      refine y_run 400 hk rfl ?_
      by_cases hkk : tK T' = tK T
      · refine y_icF rfl (by first | exact kx_same | exact kx_eq | (rw [k_lt (by omega) (by omega)] <;> omega) | (rw [k_ge (by omega) (by omega)] <;> omega) | (rw [k_gt (by omega) (by omega)] <;> omega) | (rw [k_le (by omega) (by omega)] <;> omega) | (rw [k_eq (by omega) (by omega)] <;> omega) | (rw [k_ne (by omega) (by omega)] <;> omega)) ?_
        refine y_run 400 hk rfl ?_
        by_cases h4 : tK T = 4
        · refine y_icT rfl (by first | exact kx_same | exact kx_eq | (rw [k_lt (by omega) (by omega)] <;> omega) | (rw [k_ge (by omega) (by omega)] <;> omega) | (rw [k_gt (by omega) (by omega)] <;> omega) | (rw [k_le (by omega) (by omega)] <;> omega) | (rw [k_eq (by omega) (by omega)] <;> omega) | (rw [k_ne (by omega) (by omega)] <;> omega)) ?_
          exact at204 _
        · refine y_icF rfl (by first | exact kx_same | exact kx_eq | (rw [k_lt (by omega) (by omega)] <;> omega) | (rw [k_ge (by omega) (by omega)] <;> omega) | (rw [k_gt (by omega) (by omega)] <;> omega) | (rw [k_le (by omega) (by omega)] <;> omega) | (rw [k_eq (by omega) (by omega)] <;> omega) | (rw [k_ne (by omega) (by omega)] <;> omega)) ?_
          refine y_run 400 hk rfl ?_
          refine y_look hA' rfl rfl ?_
          have hV2 : tV T' = tV T := by
            rcases hS' with ⟨z1, -, -⟩ | ⟨z1, z2⟩
            · exact z1
            · omega
          rw [lk_V hV2]
          refine y_run 400 hk rfl ?_
          refine y_lcmp rfl ?_
          rw [lg_same]
          refine y_ifT rfl (by first | (rw [k0_lt (by omega)] <;> omega) | (rw [k0_ge (by omega)] <;> omega) | (rw [k0_gt (by omega)] <;> omega) | (rw [k0_le (by omega)] <;> omega) | (rw [k0_eq (by omega)] <;> omega) | (rw [k0_ne (by omega)] <;> omega)) ?_
          exact at204 _
      · have hne : tK T' = tK T + 1 := by
          rcases hS' with ⟨-, z1, -⟩ | ⟨z1, z2⟩ <;> omega
        refine y_icT rfl (by first | exact kx_same | exact kx_eq | (rw [k_lt (by omega) (by omega)] <;> omega) | (rw [k_ge (by omega) (by omega)] <;> omega) | (rw [k_gt (by omega) (by omega)] <;> omega) | (rw [k_le (by omega) (by omega)] <;> omega) | (rw [k_eq (by omega) (by omega)] <;> omega) | (rw [k_ne (by omega) (by omega)] <;> omega)) ?_
        refine y_run 400 hk rfl ?_
        rw [nI_add]
        refine y_icF rfl (by first | exact kx_same | exact kx_eq | (rw [k_lt (by omega) (by omega)] <;> omega) | (rw [k_ge (by omega) (by omega)] <;> omega) | (rw [k_gt (by omega) (by omega)] <;> omega) | (rw [k_le (by omega) (by omega)] <;> omega) | (rw [k_eq (by omega) (by omega)] <;> omega) | (rw [k_ne (by omega) (by omega)] <;> omega)) ?_
        exact at204 _
    -- the act
    have at87 : ∀ x : Int32, Lz 10 m_law (some (len, a)) Q 87 [some (.ref 0), some (.ref 1), some (.int (nI 1)), some (.int (nI n)), l4, l5, l6, l7, l8, l9, l10] [.int x] T := by
      intro x
      refine y_run 400 hk rfl ?_
      rw [pk_mul, nI_add]
      refine y_lot (d := 5) hk hl (by omega) rfl rfl (fun y => ?_)
      refine y_run 400 hk rfl ?_
      refine y_look hA rfl rfl ?_
      refine y_run 400 hk rfl ?_
      rw [qc14]
      refine y_acts hA (by omega) rfl rfl (fun T' hS' hA' => ?_)
      have hk := hA'.1
      have at138 : Lz 10 m_law (some (len, a)) Q 138 [some (.ref 0), some (.ref 1), some (.int (nI 1)), some (.int (nI n)), some (.int x), some (.int y), some (.long (lk T)), none, some (.int (nI (tK T))), l9, l10] [] T' := by
        refine y_run 400 hk rfl ?_
        refine y_remN rfl (by omega) (by omega) (by omega) ?_
        refine y_run 400 hk rfl ?_
        by_cases h2 : n % 4 = 2
        · refine y_icF rfl (by first | exact kx_same | exact kx_eq | (rw [k_lt (by omega) (by omega)] <;> omega) | (rw [k_ge (by omega) (by omega)] <;> omega) | (rw [k_gt (by omega) (by omega)] <;> omega) | (rw [k_le (by omega) (by omega)] <;> omega) | (rw [k_eq (by omega) (by omega)] <;> omega) | (rw [k_ne (by omega) (by omega)] <;> omega)) ?_
          refine y_run 400 hk rfl ?_
          refine y_would hA' rfl rfl ?_
          refine y_ifF rfl (by first | (rw [k0_lt (by omega)] <;> omega) | (rw [k0_ge (by omega)] <;> omega) | (rw [k0_gt (by omega)] <;> omega) | (rw [k0_le (by omega)] <;> omega) | (rw [k0_eq (by omega)] <;> omega) | (rw [k0_ne (by omega)] <;> omega)) ?_
          exact at159 T' x y _ _ hS' hA'
        · refine y_icT rfl (by first | exact kx_same | exact kx_eq | (rw [k_lt (by omega) (by omega)] <;> omega) | (rw [k_ge (by omega) (by omega)] <;> omega) | (rw [k_gt (by omega) (by omega)] <;> omega) | (rw [k_le (by omega) (by omega)] <;> omega) | (rw [k_eq (by omega) (by omega)] <;> omega) | (rw [k_ne (by omega) (by omega)] <;> omega)) ?_
          exact at159 T' x y _ _ hS' hA'
      refine y_ifF rfl (by first | (rw [k0_lt (by omega)] <;> omega) | (rw [k0_ge (by omega)] <;> omega) | (rw [k0_gt (by omega)] <;> omega) | (rw [k0_le (by omega)] <;> omega) | (rw [k0_eq (by omega)] <;> omega) | (rw [k0_ne (by omega)] <;> omega)) ?_
      refine y_run 400 hk rfl ?_
      refine y_remN rfl (by omega) (by omega) (by omega) ?_
      by_cases h3 : n % 3 = 0
      · refine y_ifF rfl (by first | (rw [k0_lt (by omega)] <;> omega) | (rw [k0_ge (by omega)] <;> omega) | (rw [k0_gt (by omega)] <;> omega) | (rw [k0_le (by omega)] <;> omega) | (rw [k0_eq (by omega)] <;> omega) | (rw [k0_ne (by omega)] <;> omega)) ?_
        refine y_run 400 hk rfl ?_
        refine y_holds hA' (by omega) rfl rfl ?_
        refine y_ifF rfl (by first | (rw [k0_lt (by omega)] <;> omega) | (rw [k0_ge (by omega)] <;> omega) | (rw [k0_gt (by omega)] <;> omega) | (rw [k0_le (by omega)] <;> omega) | (rw [k0_eq (by omega)] <;> omega) | (rw [k0_ne (by omega)] <;> omega)) ?_
        exact at138
      · refine y_ifT rfl (by first | (rw [k0_lt (by omega)] <;> omega) | (rw [k0_ge (by omega)] <;> omega) | (rw [k0_gt (by omega)] <;> omega) | (rw [k0_le (by omega)] <;> omega) | (rw [k0_eq (by omega)] <;> omega) | (rw [k0_ne (by omega)] <;> omega)) ?_
        exact at138
    refine y_run 400 hk rfl ?_
    refine y_icF rfl (by first | exact kx_same | exact kx_eq | (rw [k_lt (by omega) (by omega)] <;> omega) | (rw [k_ge (by omega) (by omega)] <;> omega) | (rw [k_gt (by omega) (by omega)] <;> omega) | (rw [k_le (by omega) (by omega)] <;> omega) | (rw [k_eq (by omega) (by omega)] <;> omega) | (rw [k_ne (by omega) (by omega)] <;> omega)) ?_
    refine y_run 400 hk rfl ?_
    refine y_ifF rfl (by first | (rw [k0_lt (by omega)] <;> omega) | (rw [k0_ge (by omega)] <;> omega) | (rw [k0_gt (by omega)] <;> omega) | (rw [k0_le (by omega)] <;> omega) | (rw [k0_eq (by omega)] <;> omega) | (rw [k0_ne (by omega)] <;> omega)) ?_
    refine y_run 400 hk rfl ?_
    by_cases h2 : n < 2
    · refine y_icF rfl (by first | exact kx_same | exact kx_eq | (rw [k_lt (by omega) (by omega)] <;> omega) | (rw [k_ge (by omega) (by omega)] <;> omega) | (rw [k_gt (by omega) (by omega)] <;> omega) | (rw [k_le (by omega) (by omega)] <;> omega) | (rw [k_eq (by omega) (by omega)] <;> omega) | (rw [k_ne (by omega) (by omega)] <;> omega)) ?_
      refine y_to 87 400 hk rfl ?_
      exact at87 _
    · refine y_icT rfl (by first | exact kx_same | exact kx_eq | (rw [k_lt (by omega) (by omega)] <;> omega) | (rw [k_ge (by omega) (by omega)] <;> omega) | (rw [k_gt (by omega) (by omega)] <;> omega) | (rw [k_le (by omega) (by omega)] <;> omega) | (rw [k_eq (by omega) (by omega)] <;> omega) | (rw [k_ne (by omega) (by omega)] <;> omega)) ?_
      refine y_run 400 hk rfl ?_
      by_cases h7 : n < 7
      · refine y_icF rfl (by first | exact kx_same | exact kx_eq | (rw [k_lt (by omega) (by omega)] <;> omega) | (rw [k_ge (by omega) (by omega)] <;> omega) | (rw [k_gt (by omega) (by omega)] <;> omega) | (rw [k_le (by omega) (by omega)] <;> omega) | (rw [k_eq (by omega) (by omega)] <;> omega) | (rw [k_ne (by omega) (by omega)] <;> omega)) ?_
        refine y_to 87 400 hk rfl ?_
        exact at87 _
      · refine y_icT rfl (by first | exact kx_same | exact kx_eq | (rw [k_lt (by omega) (by omega)] <;> omega) | (rw [k_ge (by omega) (by omega)] <;> omega) | (rw [k_gt (by omega) (by omega)] <;> omega) | (rw [k_le (by omega) (by omega)] <;> omega) | (rw [k_eq (by omega) (by omega)] <;> omega) | (rw [k_ne (by omega) (by omega)] <;> omega)) ?_
        refine y_run 400 hk rfl ?_
        by_cases e7 : n = 7
        · refine y_icF rfl (by first | exact kx_same | exact kx_eq | (rw [k_lt (by omega) (by omega)] <;> omega) | (rw [k_ge (by omega) (by omega)] <;> omega) | (rw [k_gt (by omega) (by omega)] <;> omega) | (rw [k_le (by omega) (by omega)] <;> omega) | (rw [k_eq (by omega) (by omega)] <;> omega) | (rw [k_ne (by omega) (by omega)] <;> omega)) ?_
          refine y_to 87 400 hk rfl ?_
          exact at87 _
        · refine y_icT rfl (by first | exact kx_same | exact kx_eq | (rw [k_lt (by omega) (by omega)] <;> omega) | (rw [k_ge (by omega) (by omega)] <;> omega) | (rw [k_gt (by omega) (by omega)] <;> omega) | (rw [k_le (by omega) (by omega)] <;> omega) | (rw [k_eq (by omega) (by omega)] <;> omega) | (rw [k_ne (by omega) (by omega)] <;> omega)) ?_
          refine y_run 400 hk rfl ?_
          rw [pk_mul]
          refine y_lot (d := 5) hk hl (by omega) rfl rfl (fun x => ?_)
          refine y_to 87 400 hk rfl ?_
          exact at87 _
