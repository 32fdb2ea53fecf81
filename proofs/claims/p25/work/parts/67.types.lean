/-! ===== the law types a text ===== -/
/-- what typing at most k characters leaves: s of them ends of orders, e of them points -/
def tY (T T' : xT) (k s e : Nat) : Prop := tV T' = tV T ∧ tK T' = tK T ∧ tH T' = tH T ∧ tOk T' ∧ tL T' ≤ tL T + k ∧ cu (tX T') 59 (tL T') = cu (tX T) 59 (tL T) + s ∧ cu (tX T') 46 (tL T') = cu (tX T) 46 (tL T) + e
theorem tY_0 {T : xT} (hk : tOk T) : tY T T 0 0 0 := ⟨rfl, rfl, rfl, hk, Nat.le_refl _, rfl, rfl⟩
theorem tY_tr {T T' T'' : xT} {k s e k' s' e' : Nat} (h : tY T T' k s e) (h' : tY T' T'' k' s' e') : tY T T'' (k + k') (s + s') (e + e') := by
  obtain ⟨a1, a2, a3, a4, a5, a6, a7⟩ := h
  obtain ⟨b1, b2, b3, b4, b5, b6, b7⟩ := h'
  exact ⟨b1.trans a1, b2.trans a2, b3.trans a3, b4, by omega, by omega, by omega⟩
theorem tY_le {T T' : xT} {k m s e : Nat} (h : tY T T' k s e) (hm : k ≤ m) : tY T T' m s e := by
  obtain ⟨a1, a2, a3, a4, a5, a6, a7⟩ := h
  exact ⟨a1, a2, a3, a4, by omega, a6, a7⟩
theorem cu_new {f : Nat → Nat} {L x c : Nat} : cu (fun i => if i = L then x else f i) c (L + 1) = cu f c L + (if x = c then 1 else 0) := by
  rw [cu_s, if_pos rfl]
  congr 1
  exact x_cnt_congr L (fun i hi => by
    show decide ((if i = L then x else f i) = c) = decide (f i = c)
    rw [if_neg (by omega)])
theorem tY_type {T : xT} {c : Nat} (hk : tOk T) (hc1 : 32 ≤ c) (hc2 : c ≤ 126) (hL : tL T < 60) : tY T (pType T (nI c)) 1 (if c = 59 then 1 else 0) (if c = 46 then 1 else 0) ∧ aType T (nI c) = nI (tL T + 1) := by
  have h1 : nI 32 ≤ nI c := (nI_leI (by omega) (by omega)).mpr hc1
  have h2 : nI c ≤ nI 126 := (nI_leI (by omega) (by omega)).mpr hc2
  have e : pType T (nI c) = (tV T, tK T, tH T, tL T + 1, fun i => if i = tL T then c else tX T i) := by
    unfold pType
    rw [if_pos ⟨h1, h2, hL⟩, iN_nI (by omega)]
  have hk' := tOk_type (x := nI c) hk
  refine ⟨?_, ?_⟩
  · rw [e] at hk' ⊢
    exact ⟨rfl, rfl, rfl, hk', Nat.le_refl _, cu_new, cu_new⟩
  · unfold aType
    rw [if_pos ⟨h1, h2⟩, if_pos hL]
theorem z_type {d : Nat} {mm : xM} {Q : xQ} {T : xT} {pc i len c : Nat} {L : xL} {r : List Value} (hk : tOk T) (h : x_at mm.2.2.2.2 pc = some (.invokevirtual i, len, i_Bc_type, 1)) (hc : Nat.ble ((r.map fun v => v.category).sum) 8 = true) (hc1 : 32 ≤ c) (hc2 : c ≤ 126) (hL : tL T < 60) (k : ∀ T', tY T T' 1 (if c = 59 then 1 else 0) (if c = 46 then 1 else 0) → tOk T' → Zx (d + 4) mm Q (pc + len) L (.int (nI (tL T + 1)) :: r) T') : Zx (d + 4) mm Q pc L (.int (nI c) :: .ref 1 :: r) T := by
  obtain ⟨h1, h2⟩ := tY_type hk hc1 hc2 hL
  refine z_inv h rfl hc (fun g hg => s_type (d + 1) T (nI c) g _ hg hk (fun g' hg' _ => ?_))
  rw [h2]
  exact k _ h1 h1.2.2.2.1 g' hg'
set_option maxHeartbeats 4000000 in
theorem zz_number (d : Nat) (T : xT) (v : Nat) (Q : xQ) (hk : tOk T) (hv : v < 1000) (hL : tL T + (if v < 10 then 1 else 3) ≤ 60) (k : ∀ T', tY T T' (if v < 10 then 1 else 3) 0 0 → tOk T' → ∀ g, SG g T' → Q (some (.int (nI 1))) g) : ∀ g, SG g T → Cx (d + 5) i_Law_number [.ref 1, .int (nI v)] g Q := by
  have at43 : ∀ T', tY T T' (if v < 10 then 0 else 2) 0 0 → tOk T' → Zx (d + 4) m_Law_number Q 43 [some (.ref 1), some (.int (nI v))] [] T' := by
    intro T' hy hk
    have hLT := hy.2.2.2.2.1
    have hlt : tL T' < 60 := by split at hLT <;> split at hL <;> omega
    refine z_run 400 hk rfl ?_
    refine z_remN rfl (by omega) (by omega) (by omega) ?_
    refine z_run 400 hk rfl ?_
    rw [nI_add]
    refine z_type hk rfl rfl (by omega) (by omega) hlt (fun T2 hy2 hk => ?_)
    rw [if_neg (by omega), if_neg (by omega)] at hy2
    refine z_ifF rfl (by first | (rw [k0_lt (by omega)] <;> omega) | (rw [k0_ge (by omega)] <;> omega) | (rw [k0_gt (by omega)] <;> omega) | (rw [k0_le (by omega)] <;> omega) | (rw [k0_eq (by omega)] <;> omega) | (rw [k0_ne (by omega)] <;> omega)) ?_
    refine z_run 400 hk rfl ?_
    exact z_zret rfl rfl (by decide) (k T2 (tY_le (tY_tr hy hy2) (by split <;> omega)) hk)
  have at20 : ∀ T', tY T T' (if v < 100 then 0 else 1) 0 0 → tOk T' → Zx (d + 4) m_Law_number Q 20 [some (.ref 1), some (.int (nI v))] [] T' := by
    intro T' hy hk
    have hLT := hy.2.2.2.2.1
    refine z_run 400 hk rfl ?_
    by_cases h10 : v < 10
    · refine z_icT rfl (by first | exact kx_same | exact kx_eq | (rw [k_lt (by omega) (by omega)] <;> omega) | (rw [k_ge (by omega) (by omega)] <;> omega) | (rw [k_gt (by omega) (by omega)] <;> omega) | (rw [k_le (by omega) (by omega)] <;> omega) | (rw [k_eq (by omega) (by omega)] <;> omega) | (rw [k_ne (by omega) (by omega)] <;> omega)) ?_
      refine at43 T' (tY_le hy ?_) hk
      rw [if_pos (by omega), if_pos h10]
      exact Nat.le_refl _
    · refine z_icF rfl (by first | exact kx_same | exact kx_eq | (rw [k_lt (by omega) (by omega)] <;> omega) | (rw [k_ge (by omega) (by omega)] <;> omega) | (rw [k_gt (by omega) (by omega)] <;> omega) | (rw [k_le (by omega) (by omega)] <;> omega) | (rw [k_eq (by omega) (by omega)] <;> omega) | (rw [k_ne (by omega) (by omega)] <;> omega)) ?_
      have hlt : tL T' < 60 := by rw [if_neg h10] at hL; split at hLT <;> omega
      refine z_run 400 hk rfl ?_
      refine z_div rfl (by decide) ?_
      rw [pk_div (by omega) (by omega) (by omega)]
      refine z_run 400 hk rfl ?_
      refine z_remN rfl (by omega) (by omega) (by omega) ?_
      refine z_run 400 hk rfl ?_
      rw [nI_add]
      refine z_type hk rfl rfl (by omega) (by omega) hlt (fun T2 hy2 hk => ?_)
      rw [if_neg (by omega), if_neg (by omega)] at hy2
      refine z_ifF rfl (by first | (rw [k0_lt (by omega)] <;> omega) | (rw [k0_ge (by omega)] <;> omega) | (rw [k0_gt (by omega)] <;> omega) | (rw [k0_le (by omega)] <;> omega) | (rw [k0_eq (by omega)] <;> omega) | (rw [k0_ne (by omega)] <;> omega)) ?_
      refine at43 T2 (tY_le (tY_tr hy hy2) ?_) hk
      rw [if_neg h10]
      split <;> omega
  refine z_cl (L0 := [some (.ref 1), some (.int (nI v))]) rfl rfl rfl rfl ?_
  refine z_run 400 hk rfl ?_
  by_cases h100 : v < 100
  · refine z_icT rfl (by first | exact kx_same | exact kx_eq | (rw [k_lt (by omega) (by omega)] <;> omega) | (rw [k_ge (by omega) (by omega)] <;> omega) | (rw [k_gt (by omega) (by omega)] <;> omega) | (rw [k_le (by omega) (by omega)] <;> omega) | (rw [k_eq (by omega) (by omega)] <;> omega) | (rw [k_ne (by omega) (by omega)] <;> omega)) ?_
    refine at20 T (tY_le (tY_0 hk) ?_) hk
    omega
  · refine z_icF rfl (by first | exact kx_same | exact kx_eq | (rw [k_lt (by omega) (by omega)] <;> omega) | (rw [k_ge (by omega) (by omega)] <;> omega) | (rw [k_gt (by omega) (by omega)] <;> omega) | (rw [k_le (by omega) (by omega)] <;> omega) | (rw [k_eq (by omega) (by omega)] <;> omega) | (rw [k_ne (by omega) (by omega)] <;> omega)) ?_
    refine z_run 400 hk rfl ?_
    refine z_div rfl (by decide) ?_
    rw [pk_div (by omega) (by omega) (by omega)]
    refine z_run 400 hk rfl ?_
    rw [nI_add]
    refine z_type hk rfl rfl (by omega) (by omega) (by rw [if_neg (by omega)] at hL; omega) (fun T2 hy2 hk => ?_)
    rw [if_neg (by omega), if_neg (by omega)] at hy2
    refine z_ifF rfl (by first | (rw [k0_lt (by omega)] <;> omega) | (rw [k0_ge (by omega)] <;> omega) | (rw [k0_gt (by omega)] <;> omega) | (rw [k0_le (by omega)] <;> omega) | (rw [k0_eq (by omega)] <;> omega) | (rw [k0_ne (by omega)] <;> omega)) ?_
    refine at20 T2 (tY_le hy2 ?_) hk
    rw [if_neg h100]
    exact Nat.le_refl _
/-- the text behind i orders -/
def tZ (T T' : xT) (i : Nat) : Prop := ∃ s e, tY T T' (7 * i) s e ∧ (e = 0 → s = i)
set_option maxRecDepth 100000 in
set_option maxHeartbeats 16000000 in
theorem zz_types (d : Nat) (T : xT) (x : Int32) (Q : xQ) (hk : tOk T) (k : ∀ T', tV T' = tV T → tK T' = tK T → tH T' = tH T → tOk T' → (cu (tX T') 46 (tL T') = 0 → cu (tX T') 59 (tL T') = lo x 8) → ∀ g, SG g T' → Q (some (.int (nI 1))) g) : ∀ g, SG g T → Cx (d + 6) i_Law_types [.ref 1, .int x] g Q := by
  have hn : lo x 8 < 8 := lo_lt (by omega)
  generalize hn8 : lo x 8 = n at *
  refine z_cl (L0 := [some (.ref 1), some (.int x), none, none, none, none, none]) rfl rfl rfl rfl ?_
  have loop : ∀ i, i ≤ n → ∀ T' l5 l6, tZ (pClear T) T' i → tOk T' → Zx (d + 5) m_Law_types Q 23 [some (.ref 1), some (.int x), some (.int (nI n)), some (.int (nI 1)), some (.int (nI i)), l5, l6] [] T' := by
    refine r_for ?_ ?_
    · intro T' l5 l6 hz hk
      obtain ⟨s, e, hy, hse⟩ := hz
      refine z_run 400 hk rfl ?_
      refine z_icT rfl (by first | exact kx_same | exact kx_eq | (rw [k_lt (by omega) (by omega)] <;> omega) | (rw [k_ge (by omega) (by omega)] <;> omega) | (rw [k_gt (by omega) (by omega)] <;> omega) | (rw [k_le (by omega) (by omega)] <;> omega) | (rw [k_eq (by omega) (by omega)] <;> omega) | (rw [k_ne (by omega) (by omega)] <;> omega)) ?_
      refine z_run 400 hk rfl ?_
      refine z_zret rfl rfl (by decide) (k T' hy.1 hy.2.1 hy.2.2.1 hk (fun h46 => ?_))
      have h1 := hy.2.2.2.2.2.1
      have h2 := hy.2.2.2.2.2.2
      have c1 : cu (tX (pClear T)) 59 (tL (pClear T)) = 0 := rfl
      have c2 : cu (tX (pClear T)) 46 (tL (pClear T)) = 0 := rfl
      rw [c1] at h1
      rw [c2] at h2
      have := hse (by omega)
      omega
    · intro i hi ih T1 l5 l6 hz hk
      obtain ⟨s, e, hy, hse⟩ := hz
      have hL1 : tL T1 ≤ 7 * i := by
        have h1 := hy.2.2.2.2.1
        have h2 : tL (pClear T) = 0 := rfl
        omega
      refine z_run 400 hk rfl ?_
      refine z_icF rfl (by first | exact kx_same | exact kx_eq | (rw [k_lt (by omega) (by omega)] <;> omega) | (rw [k_ge (by omega) (by omega)] <;> omega) | (rw [k_gt (by omega) (by omega)] <;> omega) | (rw [k_le (by omega) (by omega)] <;> omega) | (rw [k_eq (by omega) (by omega)] <;> omega) | (rw [k_ne (by omega) (by omega)] <;> omega)) ?_
      refine z_run 400 hk rfl ?_
      generalize x >>> ((nI 2 + nI 2 * nI i) &&& 31) = y
      refine z_ins rfl rfl rfl rfl (l_low d T1 _ _ _ hk (by omega) (by omega) ?_)
      generalize hw : lo y 10 = w
      have hw10 : w < 10 := by rw [← hw]; exact lo_lt (by omega)
      -- the order's end
      have at244 : ∀ T2 s' e', tY T1 T2 6 s' e' → s' = 0 → tOk T2 → Zx (d + 5) m_Law_types Q 244 [some (.ref 1), some (.int x), some (.int (nI n)), some (.int (nI 1)), some (.int (nI i)), some (.int y), some (.int (nI w))] [] T2 := by
        intro T2 s' e' hy2 hs' hk
        subst hs'
        have hL2 := hy2.2.2.2.2.1
        have at276 : ∀ c, (c = 46 ∨ c = 59) → Zx (d + 5) m_Law_types Q 276 [some (.ref 1), some (.int x), some (.int (nI n)), some (.int (nI 1)), some (.int (nI i)), some (.int y), some (.int (nI w))] [.int (nI c), .ref 1] T2 := by
          intro c hc
          refine z_type hk rfl rfl (by omega) (by omega) (by omega) (fun T3 hy3 hk => ?_)
          refine z_ifF rfl (by first | (rw [k0_lt (by omega)] <;> omega) | (rw [k0_ge (by omega)] <;> omega) | (rw [k0_gt (by omega)] <;> omega) | (rw [k0_le (by omega)] <;> omega) | (rw [k0_eq (by omega)] <;> omega) | (rw [k0_ne (by omega)] <;> omega)) ?_
          refine z_to 23 400 hk rfl ?_
          have := ih T3 (some (.int y)) (some (.int (nI w))) ⟨_, _, tY_le (tY_tr hy (tY_tr hy2 hy3)) (by omega), fun z => ?_⟩ hk
          · rw [← nI_add i 1] at this
            exact this
          · rcases hc with rfl | rfl
            · rw [if_pos rfl] at z
              omega
            · have := hse (by omega)
              rw [if_pos rfl]
              omega
        refine z_run 400 hk rfl ?_
        refine z_ifF rfl (by first | (rw [k0_lt (by omega)] <;> omega) | (rw [k0_ge (by omega)] <;> omega) | (rw [k0_gt (by omega)] <;> omega) | (rw [k0_le (by omega)] <;> omega) | (rw [k0_eq (by omega)] <;> omega) | (rw [k0_ne (by omega)] <;> omega)) ?_
        refine z_run 400 hk rfl ?_
        have e1 : nI n - nI 1 = nI (n - 1) := pk_sub (by omega)
        rw [e1]
        by_cases hl : i = n - 1
        · refine z_icF rfl (by first | exact kx_same | exact kx_eq | (rw [k_lt (by omega) (by omega)] <;> omega) | (rw [k_ge (by omega) (by omega)] <;> omega) | (rw [k_gt (by omega) (by omega)] <;> omega) | (rw [k_le (by omega) (by omega)] <;> omega) | (rw [k_eq (by omega) (by omega)] <;> omega) | (rw [k_ne (by omega) (by omega)] <;> omega)) ?_
          refine z_run 400 hk rfl ?_
          refine z_ins rfl rfl rfl rfl (l_low d T2 _ _ _ hk (by omega) (by omega) ?_)
          have h7 : lo (x >>> (nI 26 &&& 31)) 7 < 7 := lo_lt (by omega)
          by_cases h0 : lo (x >>> (nI 26 &&& 31)) 7 = 0
          · refine z_ifF rfl (by rw [k0_ne (by omega)]; omega) ?_
            refine z_to 276 400 hk rfl ?_
            exact at276 46 (Or.inl rfl)
          · refine z_ifT rfl (by rw [k0_ne (by omega)]; omega) ?_
            refine z_to 276 400 hk rfl ?_
            exact at276 59 (Or.inr rfl)
        · refine z_icT rfl (by first | exact kx_same | exact kx_eq | (rw [k_lt (by omega) (by omega)] <;> omega) | (rw [k_ge (by omega) (by omega)] <;> omega) | (rw [k_gt (by omega) (by omega)] <;> omega) | (rw [k_le (by omega) (by omega)] <;> omega) | (rw [k_eq (by omega) (by omega)] <;> omega) | (rw [k_ne (by omega) (by omega)] <;> omega)) ?_
          refine z_to 276 400 hk rfl ?_
          exact at276 59 (Or.inr rfl)
      have at238 : ∀ T2 e', tY T1 T2 6 0 e' → tOk T2 → Zx (d + 5) m_Law_types Q 238 [some (.ref 1), some (.int x), some (.int (nI n)), some (.int (nI 1)), some (.int (nI i)), some (.int y), some (.int (nI w))] [] T2 := by
        intro T2 e' hy2 hk
        refine z_to 244 400 hk rfl ?_
        exact at244 T2 0 e' hy2 rfl hk
      -- the second number
      have at165 : ∀ T2, tY T1 T2 2 0 0 → tOk T2 → Zx (d + 5) m_Law_types Q 165 [some (.ref 1), some (.int x), some (.int (nI n)), some (.int (nI 1)), some (.int (nI i)), some (.int y), some (.int (nI w))] [] T2 := by
        intro T2 hy2 hk
        have hL2 := hy2.2.2.2.2.1
        refine z_run 400 hk rfl ?_
        by_cases h2 : w < 2
        · refine z_icT rfl (by first | exact kx_same | exact kx_eq | (rw [k_lt (by omega) (by omega)] <;> omega) | (rw [k_ge (by omega) (by omega)] <;> omega) | (rw [k_gt (by omega) (by omega)] <;> omega) | (rw [k_le (by omega) (by omega)] <;> omega) | (rw [k_eq (by omega) (by omega)] <;> omega) | (rw [k_ne (by omega) (by omega)] <;> omega)) ?_
          exact at238 T2 0 (tY_le hy2 (by omega)) hk
        · refine z_icF rfl (by first | exact kx_same | exact kx_eq | (rw [k_lt (by omega) (by omega)] <;> omega) | (rw [k_ge (by omega) (by omega)] <;> omega) | (rw [k_gt (by omega) (by omega)] <;> omega) | (rw [k_le (by omega) (by omega)] <;> omega) | (rw [k_eq (by omega) (by omega)] <;> omega) | (rw [k_ne (by omega) (by omega)] <;> omega)) ?_
          refine z_run 400 hk rfl ?_
          by_cases h4 : 4 < w
          · refine z_icT rfl (by first | exact kx_same | exact kx_eq | (rw [k_lt (by omega) (by omega)] <;> omega) | (rw [k_ge (by omega) (by omega)] <;> omega) | (rw [k_gt (by omega) (by omega)] <;> omega) | (rw [k_le (by omega) (by omega)] <;> omega) | (rw [k_eq (by omega) (by omega)] <;> omega) | (rw [k_ne (by omega) (by omega)] <;> omega)) ?_
            exact at238 T2 0 (tY_le hy2 (by omega)) hk
          · refine z_icF rfl (by first | exact kx_same | exact kx_eq | (rw [k_lt (by omega) (by omega)] <;> omega) | (rw [k_ge (by omega) (by omega)] <;> omega) | (rw [k_gt (by omega) (by omega)] <;> omega) | (rw [k_le (by omega) (by omega)] <;> omega) | (rw [k_eq (by omega) (by omega)] <;> omega) | (rw [k_ne (by omega) (by omega)] <;> omega)) ?_
            refine z_run 400 hk rfl ?_
            refine z_ins rfl rfl rfl rfl (l_low d T2 _ _ _ hk (by omega) (by omega) ?_)
            have at197 : ∀ c, (c = 46 ∨ c = 44) → Zx (d + 5) m_Law_types Q 197 [some (.ref 1), some (.int x), some (.int (nI n)), some (.int (nI 1)), some (.int (nI i)), some (.int y), some (.int (nI w))] [.int (nI c), .ref 1] T2 := by
              intro c hc
              refine z_type hk rfl rfl (by omega) (by omega) (by omega) (fun T3 hy3 hk => ?_)
              have hL3 := hy3.2.2.2.2.1
              rw [if_neg (show ¬ c = 59 by omega)] at hy3
              refine z_ifF rfl (by first | (rw [k0_lt (by omega)] <;> omega) | (rw [k0_ge (by omega)] <;> omega) | (rw [k0_gt (by omega)] <;> omega) | (rw [k0_le (by omega)] <;> omega) | (rw [k0_eq (by omega)] <;> omega) | (rw [k0_ne (by omega)] <;> omega)) ?_
              refine z_run 400 hk rfl ?_
              refine z_ins rfl rfl rfl rfl (l_low d T3 _ _ _ hk (by omega) (by omega) ?_)
              have at229 : ∀ m, 0 < m → m < 1000 → Zx (d + 5) m_Law_types Q 229 [some (.ref 1), some (.int x), some (.int (nI n)), some (.int (nI 1)), some (.int (nI i)), some (.int y), some (.int (nI w))] [.int (nI m), .int (y >>> (nI 4 &&& 31)), .ref 1] T3 := by
                intro m hm0 hm
                refine z_ins rfl rfl rfl rfl (l_low d T3 _ _ _ hk hm0 (by omega) ?_)
                have hlt : lo (y >>> (nI 4 &&& 31)) m < m := lo_lt hm0
                generalize lo (y >>> (nI 4 &&& 31)) m = v at *
                refine z_ins rfl rfl rfl rfl (zz_number d T3 v _ hk (by omega) (by split <;> omega) (fun T4 hy4 hk => ?_))
                refine z_ifF rfl (by first | (rw [k0_lt (by omega)] <;> omega) | (rw [k0_ge (by omega)] <;> omega) | (rw [k0_gt (by omega)] <;> omega) | (rw [k0_le (by omega)] <;> omega) | (rw [k0_eq (by omega)] <;> omega) | (rw [k0_ne (by omega)] <;> omega)) ?_
                exact at238 T4 _ (tY_le (tY_tr hy2 (tY_tr hy3 hy4)) (by split <;> omega)) hk
              have h9 : lo (x >>> (nI 24 &&& 31)) 9 < 9 := lo_lt (by omega)
              by_cases h0 : lo (x >>> (nI 24 &&& 31)) 9 = 0
              · refine z_ifF rfl (by rw [k0_ne (by omega)]; omega) ?_
                refine z_to 229 400 hk rfl ?_
                exact at229 600 (by omega) (by omega)
              · refine z_ifT rfl (by rw [k0_ne (by omega)]; omega) ?_
                refine z_to 229 400 hk rfl ?_
                exact at229 512 (by omega) (by omega)
            have h9 : lo (x >>> (nI 23 &&& 31)) 9 < 9 := lo_lt (by omega)
            by_cases h0 : lo (x >>> (nI 23 &&& 31)) 9 = 0
            · refine z_ifF rfl (by rw [k0_ne (by omega)]; omega) ?_
              refine z_to 197 400 hk rfl ?_
              exact at197 46 (Or.inl rfl)
            · refine z_ifT rfl (by rw [k0_ne (by omega)]; omega) ?_
              refine z_to 197 400 hk rfl ?_
              exact at197 44 (Or.inr rfl)
      -- the letter, the first number
      have at101 : ∀ c, (c = 99 ∨ c = 112 ∨ c = 98 ∨ c = 103 ∨ c = 115) → Zx (d + 5) m_Law_types Q 101 [some (.ref 1), some (.int x), some (.int (nI n)), some (.int (nI 1)), some (.int (nI i)), some (.int y), some (.int (nI w))] [.int (nI c), .ref 1] T1 := by
        intro c hc
        refine z_type hk rfl rfl (by omega) (by omega) (by omega) (fun T2 hy2 hk => ?_)
        have hL2 := hy2.2.2.2.2.1
        rw [if_neg (show ¬ c = 59 by omega), if_neg (show ¬ c = 46 by omega)] at hy2
        refine z_ifF rfl (by first | (rw [k0_lt (by omega)] <;> omega) | (rw [k0_ge (by omega)] <;> omega) | (rw [k0_gt (by omega)] <;> omega) | (rw [k0_le (by omega)] <;> omega) | (rw [k0_eq (by omega)] <;> omega) | (rw [k0_ne (by omega)] <;> omega)) ?_
        refine z_run 400 hk rfl ?_
        by_cases h6 : 6 < w
        · refine z_icT rfl (by first | exact kx_same | exact kx_eq | (rw [k_lt (by omega) (by omega)] <;> omega) | (rw [k_ge (by omega) (by omega)] <;> omega) | (rw [k_gt (by omega) (by omega)] <;> omega) | (rw [k_le (by omega) (by omega)] <;> omega) | (rw [k_eq (by omega) (by omega)] <;> omega) | (rw [k_ne (by omega) (by omega)] <;> omega)) ?_
          exact at165 T2 (tY_le hy2 (by omega)) hk
        · refine z_icF rfl (by first | exact kx_same | exact kx_eq | (rw [k_lt (by omega) (by omega)] <;> omega) | (rw [k_ge (by omega) (by omega)] <;> omega) | (rw [k_gt (by omega) (by omega)] <;> omega) | (rw [k_le (by omega) (by omega)] <;> omega) | (rw [k_eq (by omega) (by omega)] <;> omega) | (rw [k_ne (by omega) (by omega)] <;> omega)) ?_
          refine z_run 400 hk rfl ?_
          have at159 : ∀ v, v < 10 → Zx (d + 5) m_Law_types Q 159 [some (.ref 1), some (.int x), some (.int (nI n)), some (.int (nI 1)), some (.int (nI i)), some (.int y), some (.int (nI w))] [.int (nI v), .ref 1] T2 := by
            intro v hv
            refine z_ins rfl rfl rfl rfl (zz_number d T2 v _ hk (by omega) (by rw [if_pos hv]; omega) (fun T3 hy3 hk => ?_))
            rw [if_pos hv] at hy3
            refine z_ifF rfl (by first | (rw [k0_lt (by omega)] <;> omega) | (rw [k0_ge (by omega)] <;> omega) | (rw [k0_gt (by omega)] <;> omega) | (rw [k0_le (by omega)] <;> omega) | (rw [k0_eq (by omega)] <;> omega) | (rw [k0_ne (by omega)] <;> omega)) ?_
            exact at165 T3 (tY_tr hy2 hy3) hk
          by_cases h2 : w < 2
          · refine z_icF rfl (by first | exact kx_same | exact kx_eq | (rw [k_lt (by omega) (by omega)] <;> omega) | (rw [k_ge (by omega) (by omega)] <;> omega) | (rw [k_gt (by omega) (by omega)] <;> omega) | (rw [k_le (by omega) (by omega)] <;> omega) | (rw [k_eq (by omega) (by omega)] <;> omega) | (rw [k_ne (by omega) (by omega)] <;> omega)) ?_
            refine z_run 400 hk rfl ?_
            refine z_ins rfl rfl rfl rfl (l_low d T2 _ _ _ hk (by omega) (by omega) ?_)
            have h9 : lo (x >>> (nI 22 &&& 31)) 9 < 9 := lo_lt (by omega)
            by_cases h0 : lo (x >>> (nI 22 &&& 31)) 9 = 0
            · refine z_ifF rfl (by rw [k0_ne (by omega)]; omega) ?_
              refine z_run 400 hk rfl ?_
              refine z_ins rfl rfl rfl rfl (l_low d T2 _ _ _ hk (by omega) (by omega) ?_)
              refine z_to 159 400 hk rfl ?_
              exact at159 _ (lo_lt (by omega))
            · refine z_ifT rfl (by rw [k0_ne (by omega)]; omega) ?_
              refine z_run 400 hk rfl ?_
              refine z_ins rfl rfl rfl rfl (l_low d T2 _ _ _ hk (by omega) (by omega) ?_)
              refine z_to 159 400 hk rfl ?_
              exact at159 _ (Nat.lt_of_lt_of_le (lo_lt (by omega)) (by omega))
          · refine z_icT rfl (by first | exact kx_same | exact kx_eq | (rw [k_lt (by omega) (by omega)] <;> omega) | (rw [k_ge (by omega) (by omega)] <;> omega) | (rw [k_gt (by omega) (by omega)] <;> omega) | (rw [k_le (by omega) (by omega)] <;> omega) | (rw [k_eq (by omega) (by omega)] <;> omega) | (rw [k_ne (by omega) (by omega)] <;> omega)) ?_
            refine z_run 400 hk rfl ?_
            refine z_ins rfl rfl rfl rfl (l_low d T2 _ _ _ hk (by omega) (by omega) ?_)
            refine z_to 159 400 hk rfl ?_
            exact at159 _ (lo_lt (by omega))
      refine z_run 400 hk rfl ?_
      refine z_ifF rfl (by first | (rw [k0_lt (by omega)] <;> omega) | (rw [k0_ge (by omega)] <;> omega) | (rw [k0_gt (by omega)] <;> omega) | (rw [k0_le (by omega)] <;> omega) | (rw [k0_eq (by omega)] <;> omega) | (rw [k0_ne (by omega)] <;> omega)) ?_
      refine z_run 400 hk rfl ?_
      by_cases h2 : w < 2
      · refine z_icF rfl (by first | exact kx_same | exact kx_eq | (rw [k_lt (by omega) (by omega)] <;> omega) | (rw [k_ge (by omega) (by omega)] <;> omega) | (rw [k_gt (by omega) (by omega)] <;> omega) | (rw [k_le (by omega) (by omega)] <;> omega) | (rw [k_eq (by omega) (by omega)] <;> omega) | (rw [k_ne (by omega) (by omega)] <;> omega)) ?_
        refine z_to 101 400 hk rfl ?_
        exact at101 99 (by omega)
      · refine z_icT rfl (by first | exact kx_same | exact kx_eq | (rw [k_lt (by omega) (by omega)] <;> omega) | (rw [k_ge (by omega) (by omega)] <;> omega) | (rw [k_gt (by omega) (by omega)] <;> omega) | (rw [k_le (by omega) (by omega)] <;> omega) | (rw [k_eq (by omega) (by omega)] <;> omega) | (rw [k_ne (by omega) (by omega)] <;> omega)) ?_
        refine z_run 400 hk rfl ?_
        by_cases h5 : w < 5
        · refine z_icF rfl (by first | exact kx_same | exact kx_eq | (rw [k_lt (by omega) (by omega)] <;> omega) | (rw [k_ge (by omega) (by omega)] <;> omega) | (rw [k_gt (by omega) (by omega)] <;> omega) | (rw [k_le (by omega) (by omega)] <;> omega) | (rw [k_eq (by omega) (by omega)] <;> omega) | (rw [k_ne (by omega) (by omega)] <;> omega)) ?_
          refine z_to 101 400 hk rfl ?_
          exact at101 112 (by omega)
        · refine z_icT rfl (by first | exact kx_same | exact kx_eq | (rw [k_lt (by omega) (by omega)] <;> omega) | (rw [k_ge (by omega) (by omega)] <;> omega) | (rw [k_gt (by omega) (by omega)] <;> omega) | (rw [k_le (by omega) (by omega)] <;> omega) | (rw [k_eq (by omega) (by omega)] <;> omega) | (rw [k_ne (by omega) (by omega)] <;> omega)) ?_
          refine z_run 400 hk rfl ?_
          by_cases h7 : w < 7
          · refine z_icF rfl (by first | exact kx_same | exact kx_eq | (rw [k_lt (by omega) (by omega)] <;> omega) | (rw [k_ge (by omega) (by omega)] <;> omega) | (rw [k_gt (by omega) (by omega)] <;> omega) | (rw [k_le (by omega) (by omega)] <;> omega) | (rw [k_eq (by omega) (by omega)] <;> omega) | (rw [k_ne (by omega) (by omega)] <;> omega)) ?_
            refine z_to 101 400 hk rfl ?_
            exact at101 98 (by omega)
          · refine z_icT rfl (by first | exact kx_same | exact kx_eq | (rw [k_lt (by omega) (by omega)] <;> omega) | (rw [k_ge (by omega) (by omega)] <;> omega) | (rw [k_gt (by omega) (by omega)] <;> omega) | (rw [k_le (by omega) (by omega)] <;> omega) | (rw [k_eq (by omega) (by omega)] <;> omega) | (rw [k_ne (by omega) (by omega)] <;> omega)) ?_
            refine z_run 400 hk rfl ?_
            by_cases h9 : w < 9
            · refine z_icF rfl (by first | exact kx_same | exact kx_eq | (rw [k_lt (by omega) (by omega)] <;> omega) | (rw [k_ge (by omega) (by omega)] <;> omega) | (rw [k_gt (by omega) (by omega)] <;> omega) | (rw [k_le (by omega) (by omega)] <;> omega) | (rw [k_eq (by omega) (by omega)] <;> omega) | (rw [k_ne (by omega) (by omega)] <;> omega)) ?_
              refine z_to 101 400 hk rfl ?_
              exact at101 103 (by omega)
            · refine z_icT rfl (by first | exact kx_same | exact kx_eq | (rw [k_lt (by omega) (by omega)] <;> omega) | (rw [k_ge (by omega) (by omega)] <;> omega) | (rw [k_gt (by omega) (by omega)] <;> omega) | (rw [k_le (by omega) (by omega)] <;> omega) | (rw [k_eq (by omega) (by omega)] <;> omega) | (rw [k_ne (by omega) (by omega)] <;> omega)) ?_
              refine z_to 101 400 hk rfl ?_
              exact at101 115 (by omega)
  refine z_run 400 hk rfl ?_
  refine z_ins rfl rfl rfl rfl (l_low d T _ _ _ hk (by omega) (by omega) ?_)
  refine z_run 400 hk rfl ?_
  refine z_inv rfl rfl rfl (fun g hg => s_clearText (d + 3) T g _ hg (fun g' hg' hx => ?_))
  clear hx
  revert hg'
  revert g'
  have hkc := tOk_clear hk
  have hL60 := hk.2.2.2.1
  show Zx (d + 5) m_Law_types Q 11 [some (.ref 1), some (.int x), some (.int (nI (lo x 8))), none, none, none, none] [.int (nI (tL T))] (pClear T)
  rw [hn8]
  refine z_ifF rfl (by first | (rw [k0_lt (by omega)] <;> omega) | (rw [k0_ge (by omega)] <;> omega) | (rw [k0_gt (by omega)] <;> omega) | (rw [k0_le (by omega)] <;> omega) | (rw [k0_eq (by omega)] <;> omega) | (rw [k0_ne (by omega)] <;> omega)) ?_
  refine z_to 23 400 hkc rfl ?_
  exact loop 0 (Nat.zero_le _) (pClear T) _ _ ⟨0, 0, tY_0 hkc, fun _ => rfl⟩ hkc
