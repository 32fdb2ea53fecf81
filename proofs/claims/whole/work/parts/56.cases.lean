/-! ===== the law's twenty-two calls: both answer alike ===== -/
set_option maxRecDepth 100000 in
set_option maxHeartbeats 4000000 in
theorem l_chair (len i N : Nat) (a : Nat → Int32) (Q : xQ) (T : xT) (g : xG) (hl : len ≤ 2048) (hi : 4 * i + 4 ≤ len) (hS : SG g T) (hM : MS g T) (hk : tOk T) (hb : tBd T N) (hN : N ≤ 600000) (k : ∀ (g' : xG) (T' : xT), SG g' T' → MS g' T' → tOk T' → tBd T' (N + 1020) → Lx len a Q 18 [some (.ref 0), some (.ref 1), some (.ref 157), some (.int (nI (4 * i + 4)))] [] g') : Lx len a Q 136 [some (.ref 0), some (.ref 1), some (.ref 157), some (.int (nI (4 * i)))] [] g := by
  have fin : ∀ (g' : xG) (T' : xT), SG g' T' → MS g' T' → tOk T' → tBd T' (N + 1020) → Lx len a Q 672 [some (.ref 0), some (.ref 1), some (.ref 157), some (.int (nI (4 * i)))] [] g' := by
    intro g' T' h1 h2 h3 h4
    refine l_to 18 60 rfl ?_
    simp only [nI_add]
    exact k g' T' h1 h2 h3 h4
  refine l_run 400 rfl ?_
  simp only [nI_add]
  refine l_sld (j := 4 * i + 1) rfl rfl (by omega) (by omega) ?_
  refine l_inv rfl rfl rfl ?_
  refine s_chair 5 T _ g _ hS hk (fun g1 b1 b2 => ?_)
  have hM1 := MS_row hM b2
  refine l_run 400 rfl ?_
  simp only [nI_add]
  refine l_sld (j := 4 * i + 1) rfl rfl (by omega) (by omega) ?_
  refine l_inv rfl rfl rfl ?_
  refine n_chair 6 T _ g1 _ hM1 hk (fun g2 c1 c2 => ?_)
  have hS2 := SG_row b1 c2
  obtain ⟨t1, t2⟩ := tk_chair (t := a (4 * i + 1)) hk hb
  exact l_ic rfl (fun _ => fin g2 _ hS2 c1 t1 t2) (fun z => absurd rfl z)
set_option maxRecDepth 100000 in
set_option maxHeartbeats 4000000 in
theorem l_player (len i N : Nat) (a : Nat → Int32) (Q : xQ) (T : xT) (g : xG) (hl : len ≤ 2048) (hi : 4 * i + 4 ≤ len) (hS : SG g T) (hM : MS g T) (hk : tOk T) (hb : tBd T N) (hN : N ≤ 600000) (k : ∀ (g' : xG) (T' : xT), SG g' T' → MS g' T' → tOk T' → tBd T' (N + 1020) → Lx len a Q 18 [some (.ref 0), some (.ref 1), some (.ref 157), some (.int (nI (4 * i + 4)))] [] g') : Lx len a Q 159 [some (.ref 0), some (.ref 1), some (.ref 157), some (.int (nI (4 * i)))] [] g := by
  have fin : ∀ (g' : xG) (T' : xT), SG g' T' → MS g' T' → tOk T' → tBd T' (N + 1020) → Lx len a Q 672 [some (.ref 0), some (.ref 1), some (.ref 157), some (.int (nI (4 * i)))] [] g' := by
    intro g' T' h1 h2 h3 h4
    refine l_to 18 60 rfl ?_
    simp only [nI_add]
    exact k g' T' h1 h2 h3 h4
  refine l_run 400 rfl ?_
  simp only [nI_add]
  refine l_sld (j := 4 * i + 1) rfl rfl (by omega) (by omega) ?_
  refine l_run 400 rfl ?_
  simp only [nI_add]
  refine l_sld (j := 4 * i + 2) rfl rfl (by omega) (by omega) ?_
  refine l_inv rfl rfl rfl ?_
  refine s_player 5 T _ _ g _ hS hk (fun g1 b1 b2 => ?_)
  have hM1 := MS_row hM b2
  refine l_run 400 rfl ?_
  simp only [nI_add]
  refine l_sld (j := 4 * i + 1) rfl rfl (by omega) (by omega) ?_
  refine l_run 400 rfl ?_
  simp only [nI_add]
  refine l_sld (j := 4 * i + 2) rfl rfl (by omega) (by omega) ?_
  refine l_inv rfl rfl rfl ?_
  refine n_player 6 T _ _ g1 _ hM1 hk (fun g2 c1 c2 => ?_)
  have hS2 := SG_row b1 c2
  obtain ⟨t1, t2⟩ := tk_player (s := a (4 * i + 1)) (e := a (4 * i + 2)) hk hb
  exact l_ic rfl (fun _ => fin g2 _ hS2 c1 t1 t2) (fun z => absurd rfl z)
set_option maxRecDepth 100000 in
set_option maxHeartbeats 4000000 in
theorem l_tune (len i N : Nat) (a : Nat → Int32) (Q : xQ) (T : xT) (g : xG) (hl : len ≤ 2048) (hi : 4 * i + 4 ≤ len) (hS : SG g T) (hM : MS g T) (hk : tOk T) (hb : tBd T N) (hN : N ≤ 600000) (k : ∀ (g' : xG) (T' : xT), SG g' T' → MS g' T' → tOk T' → tBd T' (N + 1020) → Lx len a Q 18 [some (.ref 0), some (.ref 1), some (.ref 157), some (.int (nI (4 * i + 4)))] [] g') : Lx len a Q 192 [some (.ref 0), some (.ref 1), some (.ref 157), some (.int (nI (4 * i)))] [] g := by
  have fin : ∀ (g' : xG) (T' : xT), SG g' T' → MS g' T' → tOk T' → tBd T' (N + 1020) → Lx len a Q 672 [some (.ref 0), some (.ref 1), some (.ref 157), some (.int (nI (4 * i)))] [] g' := by
    intro g' T' h1 h2 h3 h4
    refine l_to 18 60 rfl ?_
    simp only [nI_add]
    exact k g' T' h1 h2 h3 h4
  refine l_run 400 rfl ?_
  simp only [nI_add]
  refine l_sld (j := 4 * i + 1) rfl rfl (by omega) (by omega) ?_
  refine l_run 400 rfl ?_
  simp only [nI_add]
  refine l_sld (j := 4 * i + 2) rfl rfl (by omega) (by omega) ?_
  refine l_inv rfl rfl rfl ?_
  refine s_tune 5 T _ _ g _ hS hk (fun g1 b1 b2 => ?_)
  have hM1 := MS_row hM b2
  refine l_run 400 rfl ?_
  simp only [nI_add]
  refine l_sld (j := 4 * i + 1) rfl rfl (by omega) (by omega) ?_
  refine l_run 400 rfl ?_
  simp only [nI_add]
  refine l_sld (j := 4 * i + 2) rfl rfl (by omega) (by omega) ?_
  refine l_inv rfl rfl rfl ?_
  refine n_tune 7 T _ _ g1 _ hM1 hk (fun g2 c1 c2 => ?_)
  have hS2 := SG_row b1 c2
  obtain ⟨t1, t2⟩ := tk_tune (j := a (4 * i + 1)) (t := a (4 * i + 2)) hk hb
  exact l_ic rfl (fun _ => fin g2 _ hS2 c1 t1 t2) (fun z => absurd rfl z)
set_option maxRecDepth 100000 in
set_option maxHeartbeats 4000000 in
theorem l_train (len i N : Nat) (a : Nat → Int32) (Q : xQ) (T : xT) (g : xG) (hl : len ≤ 2048) (hi : 4 * i + 4 ≤ len) (hS : SG g T) (hM : MS g T) (hk : tOk T) (hb : tBd T N) (hN : N ≤ 600000) (k : ∀ (g' : xG) (T' : xT), SG g' T' → MS g' T' → tOk T' → tBd T' (N + 1020) → Lx len a Q 18 [some (.ref 0), some (.ref 1), some (.ref 157), some (.int (nI (4 * i + 4)))] [] g') : Lx len a Q 225 [some (.ref 0), some (.ref 1), some (.ref 157), some (.int (nI (4 * i)))] [] g := by
  have fin : ∀ (g' : xG) (T' : xT), SG g' T' → MS g' T' → tOk T' → tBd T' (N + 1020) → Lx len a Q 672 [some (.ref 0), some (.ref 1), some (.ref 157), some (.int (nI (4 * i)))] [] g' := by
    intro g' T' h1 h2 h3 h4
    refine l_to 18 60 rfl ?_
    simp only [nI_add]
    exact k g' T' h1 h2 h3 h4
  refine l_run 400 rfl ?_
  simp only [nI_add]
  refine l_sld (j := 4 * i + 1) rfl rfl (by omega) (by omega) ?_
  refine l_run 400 rfl ?_
  simp only [nI_add]
  refine l_sld (j := 4 * i + 2) rfl rfl (by omega) (by omega) ?_
  refine l_run 400 rfl ?_
  simp only [nI_add]
  refine l_sld (j := 4 * i + 3) rfl rfl (by omega) (by omega) ?_
  refine l_inv rfl rfl rfl ?_
  refine s_train 5 T _ _ _ g _ hS hk (fun g1 b1 b2 => ?_)
  have hM1 := MS_row hM b2
  refine l_run 400 rfl ?_
  simp only [nI_add]
  refine l_sld (j := 4 * i + 1) rfl rfl (by omega) (by omega) ?_
  refine l_run 400 rfl ?_
  simp only [nI_add]
  refine l_sld (j := 4 * i + 2) rfl rfl (by omega) (by omega) ?_
  refine l_run 400 rfl ?_
  simp only [nI_add]
  refine l_sld (j := 4 * i + 3) rfl rfl (by omega) (by omega) ?_
  refine l_inv rfl rfl rfl ?_
  refine n_train 7 T _ _ _ g1 _ hM1 hk (fun g2 c1 c2 => ?_)
  have hS2 := SG_row b1 c2
  obtain ⟨t1, t2⟩ := tk_train (q := a (4 * i + 1)) (s := a (4 * i + 2)) (e := a (4 * i + 3)) hk hb
  exact l_ic rfl (fun _ => fin g2 _ hS2 c1 t1 t2) (fun z => absurd rfl z)
set_option maxRecDepth 100000 in
set_option maxHeartbeats 4000000 in
theorem l_start (len i N : Nat) (a : Nat → Int32) (Q : xQ) (T : xT) (g : xG) (hl : len ≤ 2048) (hi : 4 * i + 4 ≤ len) (hS : SG g T) (hM : MS g T) (hk : tOk T) (hb : tBd T N) (hN : N ≤ 600000) (k : ∀ (g' : xG) (T' : xT), SG g' T' → MS g' T' → tOk T' → tBd T' (N + 1020) → Lx len a Q 18 [some (.ref 0), some (.ref 1), some (.ref 157), some (.int (nI (4 * i + 4)))] [] g') : Lx len a Q 268 [some (.ref 0), some (.ref 1), some (.ref 157), some (.int (nI (4 * i)))] [] g := by
  have fin : ∀ (g' : xG) (T' : xT), SG g' T' → MS g' T' → tOk T' → tBd T' (N + 1020) → Lx len a Q 672 [some (.ref 0), some (.ref 1), some (.ref 157), some (.int (nI (4 * i)))] [] g' := by
    intro g' T' h1 h2 h3 h4
    refine l_to 18 60 rfl ?_
    simp only [nI_add]
    exact k g' T' h1 h2 h3 h4
  refine l_run 400 rfl ?_
  refine l_inv rfl rfl rfl ?_
  refine s_start 5 T  g _ hS hk (fun g1 b1 b2 => ?_)
  have hM1 := MS_row hM b2
  refine l_run 400 rfl ?_
  refine l_inv rfl rfl rfl ?_
  refine n_start 6 T  g1 _ hM1 hk (fun g2 c1 c2 => ?_)
  have hS2 := SG_row b1 c2
  obtain ⟨t1, t2⟩ := tk_start hk hb
  exact l_ic rfl (fun _ => fin g2 _ hS2 c1 t1 t2) (fun z => absurd rfl z)
set_option maxRecDepth 100000 in
set_option maxHeartbeats 4000000 in
theorem l_beat (len i N : Nat) (a : Nat → Int32) (Q : xQ) (T : xT) (g : xG) (hl : len ≤ 2048) (hi : 4 * i + 4 ≤ len) (hS : SG g T) (hM : MS g T) (hk : tOk T) (hb : tBd T N) (hN : N ≤ 600000) (k : ∀ (g' : xG) (T' : xT), SG g' T' → MS g' T' → tOk T' → tBd T' (N + 1020) → Lx len a Q 18 [some (.ref 0), some (.ref 1), some (.ref 157), some (.int (nI (4 * i + 4)))] [] g') : Lx len a Q 281 [some (.ref 0), some (.ref 1), some (.ref 157), some (.int (nI (4 * i)))] [] g := by
  have fin : ∀ (g' : xG) (T' : xT), SG g' T' → MS g' T' → tOk T' → tBd T' (N + 1020) → Lx len a Q 672 [some (.ref 0), some (.ref 1), some (.ref 157), some (.int (nI (4 * i)))] [] g' := by
    intro g' T' h1 h2 h3 h4
    refine l_to 18 60 rfl ?_
    simp only [nI_add]
    exact k g' T' h1 h2 h3 h4
  refine l_run 400 rfl ?_
  simp only [nI_add]
  refine l_sld (j := 4 * i + 1) rfl rfl (by omega) (by omega) ?_
  refine l_inv rfl rfl rfl ?_
  refine s_beat 5 T _ g _ hS hk (fun g1 b1 b2 => ?_)
  have hM1 := MS_row hM b2
  refine l_run 400 rfl ?_
  simp only [nI_add]
  refine l_sld (j := 4 * i + 1) rfl rfl (by omega) (by omega) ?_
  refine l_inv rfl rfl rfl ?_
  refine n_beat 6 T _ g1 _ hM1 hk (fun g2 c1 c2 => ?_)
  have hS2 := SG_row b1 c2
  obtain ⟨t1, t2⟩ := tk_beat (b := a (4 * i + 1)) hk hb
  exact l_ic rfl (fun _ => fin g2 _ hS2 c1 t1 t2) (fun z => absurd rfl z)
set_option maxRecDepth 100000 in
set_option maxHeartbeats 4000000 in
theorem l_stop (len i N : Nat) (a : Nat → Int32) (Q : xQ) (T : xT) (g : xG) (hl : len ≤ 2048) (hi : 4 * i + 4 ≤ len) (hS : SG g T) (hM : MS g T) (hk : tOk T) (hb : tBd T N) (hN : N ≤ 600000) (k : ∀ (g' : xG) (T' : xT), SG g' T' → MS g' T' → tOk T' → tBd T' (N + 1020) → Lx len a Q 18 [some (.ref 0), some (.ref 1), some (.ref 157), some (.int (nI (4 * i + 4)))] [] g') : Lx len a Q 304 [some (.ref 0), some (.ref 1), some (.ref 157), some (.int (nI (4 * i)))] [] g := by
  have fin : ∀ (g' : xG) (T' : xT), SG g' T' → MS g' T' → tOk T' → tBd T' (N + 1020) → Lx len a Q 672 [some (.ref 0), some (.ref 1), some (.ref 157), some (.int (nI (4 * i)))] [] g' := by
    intro g' T' h1 h2 h3 h4
    refine l_to 18 60 rfl ?_
    simp only [nI_add]
    exact k g' T' h1 h2 h3 h4
  refine l_run 400 rfl ?_
  refine l_inv rfl rfl rfl ?_
  refine s_stop 5 T  g _ hS hk (fun g1 b1 b2 => ?_)
  have hM1 := MS_row hM b2
  refine l_run 400 rfl ?_
  refine l_inv rfl rfl rfl ?_
  refine n_stop 2 T  g1 _ hM1 hk (fun g2 c1 c2 => ?_)
  have hS2 := SG_row b1 c2
  obtain ⟨t1, t2⟩ := tk_stop hk hb
  exact l_ic rfl (fun _ => fin g2 _ hS2 c1 t1 t2) (fun z => absurd rfl z)
set_option maxRecDepth 100000 in
set_option maxHeartbeats 4000000 in
theorem l_set (len i N : Nat) (a : Nat → Int32) (Q : xQ) (T : xT) (g : xG) (hl : len ≤ 2048) (hi : 4 * i + 4 ≤ len) (hS : SG g T) (hM : MS g T) (hk : tOk T) (hb : tBd T N) (hN : N ≤ 600000) (k : ∀ (g' : xG) (T' : xT), SG g' T' → MS g' T' → tOk T' → tBd T' (N + 1020) → Lx len a Q 18 [some (.ref 0), some (.ref 1), some (.ref 157), some (.int (nI (4 * i + 4)))] [] g') : Lx len a Q 317 [some (.ref 0), some (.ref 1), some (.ref 157), some (.int (nI (4 * i)))] [] g := by
  have fin : ∀ (g' : xG) (T' : xT), SG g' T' → MS g' T' → tOk T' → tBd T' (N + 1020) → Lx len a Q 672 [some (.ref 0), some (.ref 1), some (.ref 157), some (.int (nI (4 * i)))] [] g' := by
    intro g' T' h1 h2 h3 h4
    refine l_to 18 60 rfl ?_
    simp only [nI_add]
    exact k g' T' h1 h2 h3 h4
  refine l_run 400 rfl ?_
  simp only [nI_add]
  refine l_sld (j := 4 * i + 1) rfl rfl (by omega) (by omega) ?_
  refine l_run 400 rfl ?_
  simp only [nI_add]
  refine l_sld (j := 4 * i + 2) rfl rfl (by omega) (by omega) ?_
  refine l_inv rfl rfl rfl ?_
  refine s_set 5 T _ _ g _ hS hk (fun g1 b1 b2 => ?_)
  have hM1 := MS_row hM b2
  refine l_run 400 rfl ?_
  simp only [nI_add]
  refine l_sld (j := 4 * i + 1) rfl rfl (by omega) (by omega) ?_
  refine l_run 400 rfl ?_
  simp only [nI_add]
  refine l_sld (j := 4 * i + 2) rfl rfl (by omega) (by omega) ?_
  refine l_inv rfl rfl rfl ?_
  refine n_set 7 T _ _ g1 _ hM1 hk (fun g2 c1 c2 => ?_)
  have hS2 := SG_row b1 c2
  obtain ⟨t1, t2⟩ := tk_set (w := a (4 * i + 1)) (v := a (4 * i + 2)) hk hb
  exact l_ic rfl (fun _ => fin g2 _ hS2 c1 t1 t2) (fun z => absurd rfl z)
set_option maxRecDepth 100000 in
set_option maxHeartbeats 4000000 in
theorem l_chairOf (len i N : Nat) (a : Nat → Int32) (Q : xQ) (T : xT) (g : xG) (hl : len ≤ 2048) (hi : 4 * i + 4 ≤ len) (hS : SG g T) (hM : MS g T) (hk : tOk T) (hb : tBd T N) (hN : N ≤ 600000) (k : ∀ (g' : xG) (T' : xT), SG g' T' → MS g' T' → tOk T' → tBd T' (N + 1020) → Lx len a Q 18 [some (.ref 0), some (.ref 1), some (.ref 157), some (.int (nI (4 * i + 4)))] [] g') : Lx len a Q 350 [some (.ref 0), some (.ref 1), some (.ref 157), some (.int (nI (4 * i)))] [] g := by
  have fin : ∀ (g' : xG) (T' : xT), SG g' T' → MS g' T' → tOk T' → tBd T' (N + 1020) → Lx len a Q 672 [some (.ref 0), some (.ref 1), some (.ref 157), some (.int (nI (4 * i)))] [] g' := by
    intro g' T' h1 h2 h3 h4
    refine l_to 18 60 rfl ?_
    simp only [nI_add]
    exact k g' T' h1 h2 h3 h4
  refine l_run 400 rfl ?_
  simp only [nI_add]
  refine l_sld (j := 4 * i + 1) rfl rfl (by omega) (by omega) ?_
  refine l_run 400 rfl ?_
  simp only [nI_add]
  refine l_sld (j := 4 * i + 2) rfl rfl (by omega) (by omega) ?_
  refine l_inv rfl rfl rfl ?_
  refine s_chairOf 8 T _ _ g _ hS hk ?_
  refine l_run 400 rfl ?_
  simp only [nI_add]
  refine l_sld (j := 4 * i + 1) rfl rfl (by omega) (by omega) ?_
  refine l_run 400 rfl ?_
  simp only [nI_add]
  refine l_sld (j := 4 * i + 2) rfl rfl (by omega) (by omega) ?_
  refine l_inv rfl rfl rfl ?_
  refine n_chairOf 7 T _ _ g _ hM hk ?_
  obtain ⟨t1, t2⟩ := tk_same hk hb
  exact l_ic rfl (fun _ => fin g T hS hM t1 t2) (fun z => absurd rfl z)
set_option maxRecDepth 100000 in
set_option maxHeartbeats 4000000 in
theorem l_playerOf (len i N : Nat) (a : Nat → Int32) (Q : xQ) (T : xT) (g : xG) (hl : len ≤ 2048) (hi : 4 * i + 4 ≤ len) (hS : SG g T) (hM : MS g T) (hk : tOk T) (hb : tBd T N) (hN : N ≤ 600000) (k : ∀ (g' : xG) (T' : xT), SG g' T' → MS g' T' → tOk T' → tBd T' (N + 1020) → Lx len a Q 18 [some (.ref 0), some (.ref 1), some (.ref 157), some (.int (nI (4 * i + 4)))] [] g') : Lx len a Q 383 [some (.ref 0), some (.ref 1), some (.ref 157), some (.int (nI (4 * i)))] [] g := by
  have fin : ∀ (g' : xG) (T' : xT), SG g' T' → MS g' T' → tOk T' → tBd T' (N + 1020) → Lx len a Q 672 [some (.ref 0), some (.ref 1), some (.ref 157), some (.int (nI (4 * i)))] [] g' := by
    intro g' T' h1 h2 h3 h4
    refine l_to 18 60 rfl ?_
    simp only [nI_add]
    exact k g' T' h1 h2 h3 h4
  refine l_run 400 rfl ?_
  simp only [nI_add]
  refine l_sld (j := 4 * i + 1) rfl rfl (by omega) (by omega) ?_
  refine l_run 400 rfl ?_
  simp only [nI_add]
  refine l_sld (j := 4 * i + 2) rfl rfl (by omega) (by omega) ?_
  refine l_inv rfl rfl rfl ?_
  refine s_playerOf 8 T _ _ g _ hS hk ?_
  refine l_run 400 rfl ?_
  simp only [nI_add]
  refine l_sld (j := 4 * i + 1) rfl rfl (by omega) (by omega) ?_
  refine l_run 400 rfl ?_
  simp only [nI_add]
  refine l_sld (j := 4 * i + 2) rfl rfl (by omega) (by omega) ?_
  refine l_inv rfl rfl rfl ?_
  refine n_playerOf 7 T _ _ g _ hM hk ?_
  obtain ⟨t1, t2⟩ := tk_same hk hb
  exact l_ic rfl (fun _ => fin g T hS hM t1 t2) (fun z => absurd rfl z)
set_option maxRecDepth 100000 in
set_option maxHeartbeats 4000000 in
theorem l_hears (len i N : Nat) (a : Nat → Int32) (Q : xQ) (T : xT) (g : xG) (hl : len ≤ 2048) (hi : 4 * i + 4 ≤ len) (hS : SG g T) (hM : MS g T) (hk : tOk T) (hb : tBd T N) (hN : N ≤ 600000) (k : ∀ (g' : xG) (T' : xT), SG g' T' → MS g' T' → tOk T' → tBd T' (N + 1020) → Lx len a Q 18 [some (.ref 0), some (.ref 1), some (.ref 157), some (.int (nI (4 * i + 4)))] [] g') : Lx len a Q 416 [some (.ref 0), some (.ref 1), some (.ref 157), some (.int (nI (4 * i)))] [] g := by
  have fin : ∀ (g' : xG) (T' : xT), SG g' T' → MS g' T' → tOk T' → tBd T' (N + 1020) → Lx len a Q 672 [some (.ref 0), some (.ref 1), some (.ref 157), some (.int (nI (4 * i)))] [] g' := by
    intro g' T' h1 h2 h3 h4
    refine l_to 18 60 rfl ?_
    simp only [nI_add]
    exact k g' T' h1 h2 h3 h4
  refine l_run 400 rfl ?_
  simp only [nI_add]
  refine l_sld (j := 4 * i + 1) rfl rfl (by omega) (by omega) ?_
  refine l_run 400 rfl ?_
  simp only [nI_add]
  refine l_sld (j := 4 * i + 2) rfl rfl (by omega) (by omega) ?_
  refine l_inv rfl rfl rfl ?_
  refine s_hears 8 T _ _ g _ hS hk ?_
  refine l_run 400 rfl ?_
  simp only [nI_add]
  refine l_sld (j := 4 * i + 1) rfl rfl (by omega) (by omega) ?_
  refine l_run 400 rfl ?_
  simp only [nI_add]
  refine l_sld (j := 4 * i + 2) rfl rfl (by omega) (by omega) ?_
  refine l_inv rfl rfl rfl ?_
  refine n_hears 7 T _ _ g _ hM hk ?_
  obtain ⟨t1, t2⟩ := tk_same hk hb
  exact l_ic rfl (fun _ => fin g T hS hM t1 t2) (fun z => absurd rfl z)
set_option maxRecDepth 100000 in
set_option maxHeartbeats 4000000 in
theorem l_bell (len i N : Nat) (a : Nat → Int32) (Q : xQ) (T : xT) (g : xG) (hl : len ≤ 2048) (hi : 4 * i + 4 ≤ len) (hS : SG g T) (hM : MS g T) (hk : tOk T) (hb : tBd T N) (hN : N ≤ 600000) (k : ∀ (g' : xG) (T' : xT), SG g' T' → MS g' T' → tOk T' → tBd T' (N + 1020) → Lx len a Q 18 [some (.ref 0), some (.ref 1), some (.ref 157), some (.int (nI (4 * i + 4)))] [] g') : Lx len a Q 449 [some (.ref 0), some (.ref 1), some (.ref 157), some (.int (nI (4 * i)))] [] g := by
  have fin : ∀ (g' : xG) (T' : xT), SG g' T' → MS g' T' → tOk T' → tBd T' (N + 1020) → Lx len a Q 672 [some (.ref 0), some (.ref 1), some (.ref 157), some (.int (nI (4 * i)))] [] g' := by
    intro g' T' h1 h2 h3 h4
    refine l_to 18 60 rfl ?_
    simp only [nI_add]
    exact k g' T' h1 h2 h3 h4
  refine l_run 400 rfl ?_
  simp only [nI_add]
  refine l_sld (j := 4 * i + 1) rfl rfl (by omega) (by omega) ?_
  refine l_run 400 rfl ?_
  simp only [nI_add]
  refine l_sld (j := 4 * i + 2) rfl rfl (by omega) (by omega) ?_
  refine l_inv rfl rfl rfl ?_
  refine s_bell 8 T _ _ g _ hS ?_
  refine l_run 400 rfl ?_
  simp only [nI_add]
  refine l_sld (j := 4 * i + 1) rfl rfl (by omega) (by omega) ?_
  refine l_run 400 rfl ?_
  simp only [nI_add]
  refine l_sld (j := 4 * i + 2) rfl rfl (by omega) (by omega) ?_
  refine l_inv rfl rfl rfl ?_
  refine n_bell 8 T _ _ g _ hM ?_
  obtain ⟨t1, t2⟩ := tk_same hk hb
  exact l_ic rfl (fun _ => fin g T hS hM t1 t2) (fun z => absurd rfl z)
set_option maxRecDepth 100000 in
set_option maxHeartbeats 4000000 in
theorem l_ifStopped (len i N : Nat) (a : Nat → Int32) (Q : xQ) (T : xT) (g : xG) (hl : len ≤ 2048) (hi : 4 * i + 4 ≤ len) (hS : SG g T) (hM : MS g T) (hk : tOk T) (hb : tBd T N) (hN : N ≤ 600000) (k : ∀ (g' : xG) (T' : xT), SG g' T' → MS g' T' → tOk T' → tBd T' (N + 1020) → Lx len a Q 18 [some (.ref 0), some (.ref 1), some (.ref 157), some (.int (nI (4 * i + 4)))] [] g') : Lx len a Q 482 [some (.ref 0), some (.ref 1), some (.ref 157), some (.int (nI (4 * i)))] [] g := by
  have fin : ∀ (g' : xG) (T' : xT), SG g' T' → MS g' T' → tOk T' → tBd T' (N + 1020) → Lx len a Q 672 [some (.ref 0), some (.ref 1), some (.ref 157), some (.int (nI (4 * i)))] [] g' := by
    intro g' T' h1 h2 h3 h4
    refine l_to 18 60 rfl ?_
    simp only [nI_add]
    exact k g' T' h1 h2 h3 h4
  refine l_run 400 rfl ?_
  simp only [nI_add]
  refine l_sld (j := 4 * i + 1) rfl rfl (by omega) (by omega) ?_
  refine l_run 400 rfl ?_
  simp only [nI_add]
  refine l_sld (j := 4 * i + 2) rfl rfl (by omega) (by omega) ?_
  refine l_inv rfl rfl rfl ?_
  refine s_ifStopped 6 T _ _ g _ hS hk (fun g1 b1 b2 => ?_)
  have hM1 := MS_row hM b2
  refine l_run 400 rfl ?_
  simp only [nI_add]
  refine l_sld (j := 4 * i + 1) rfl rfl (by omega) (by omega) ?_
  refine l_run 400 rfl ?_
  simp only [nI_add]
  refine l_sld (j := 4 * i + 2) rfl rfl (by omega) (by omega) ?_
  refine l_inv rfl rfl rfl ?_
  refine n_ifStopped 2 T _ _ g1 _ hM1 hk (fun g2 c1 c2 => ?_)
  have hS2 := SG_row b1 c2
  obtain ⟨t1, t2⟩ := tk_same hk hb
  exact l_ic rfl (fun _ => fin g2 _ hS2 c1 t1 t2) (fun z => absurd rfl z)
set_option maxRecDepth 100000 in
set_option maxHeartbeats 4000000 in
theorem l_outs (len i N : Nat) (a : Nat → Int32) (Q : xQ) (T : xT) (g : xG) (hl : len ≤ 2048) (hi : 4 * i + 4 ≤ len) (hS : SG g T) (hM : MS g T) (hk : tOk T) (hb : tBd T N) (hN : N ≤ 600000) (k : ∀ (g' : xG) (T' : xT), SG g' T' → MS g' T' → tOk T' → tBd T' (N + 1020) → Lx len a Q 18 [some (.ref 0), some (.ref 1), some (.ref 157), some (.int (nI (4 * i + 4)))] [] g') : Lx len a Q 515 [some (.ref 0), some (.ref 1), some (.ref 157), some (.int (nI (4 * i)))] [] g := by
  have fin : ∀ (g' : xG) (T' : xT), SG g' T' → MS g' T' → tOk T' → tBd T' (N + 1020) → Lx len a Q 672 [some (.ref 0), some (.ref 1), some (.ref 157), some (.int (nI (4 * i)))] [] g' := by
    intro g' T' h1 h2 h3 h4
    refine l_to 18 60 rfl ?_
    simp only [nI_add]
    exact k g' T' h1 h2 h3 h4
  refine l_run 400 rfl ?_
  refine l_inv rfl rfl rfl ?_
  refine s_outs 6 T  g _ hS hk (fun g1 b1 b2 => ?_)
  have hM1 := MS_row hM b2
  refine l_run 400 rfl ?_
  refine l_inv rfl rfl rfl ?_
  refine n_outs 3 T  g1 _ hM1 hk (fun g2 c1 c2 => ?_)
  have hS2 := SG_row b1 c2
  obtain ⟨t1, t2⟩ := tk_same hk hb
  exact l_ic rfl (fun _ => fin g2 _ hS2 c1 t1 t2) (fun z => absurd rfl z)
set_option maxRecDepth 100000 in
set_option maxHeartbeats 4000000 in
theorem l_safeIn (len i N : Nat) (a : Nat → Int32) (Q : xQ) (T : xT) (g : xG) (hl : len ≤ 2048) (hi : 4 * i + 4 ≤ len) (hS : SG g T) (hM : MS g T) (hk : tOk T) (hb : tBd T N) (hN : N ≤ 600000) (k : ∀ (g' : xG) (T' : xT), SG g' T' → MS g' T' → tOk T' → tBd T' (N + 1020) → Lx len a Q 18 [some (.ref 0), some (.ref 1), some (.ref 157), some (.int (nI (4 * i + 4)))] [] g') : Lx len a Q 528 [some (.ref 0), some (.ref 1), some (.ref 157), some (.int (nI (4 * i)))] [] g := by
  have fin : ∀ (g' : xG) (T' : xT), SG g' T' → MS g' T' → tOk T' → tBd T' (N + 1020) → Lx len a Q 672 [some (.ref 0), some (.ref 1), some (.ref 157), some (.int (nI (4 * i)))] [] g' := by
    intro g' T' h1 h2 h3 h4
    refine l_to 18 60 rfl ?_
    simp only [nI_add]
    exact k g' T' h1 h2 h3 h4
  refine l_run 400 rfl ?_
  simp only [nI_add]
  refine l_sld (j := 4 * i + 1) rfl rfl (by omega) (by omega) ?_
  refine l_inv rfl rfl rfl ?_
  refine s_safeIn 6 T _ g _ hS hk (fun g1 b1 b2 => ?_)
  have hM1 := MS_row hM b2
  refine l_run 400 rfl ?_
  simp only [nI_add]
  refine l_sld (j := 4 * i + 1) rfl rfl (by omega) (by omega) ?_
  refine l_inv rfl rfl rfl ?_
  refine n_safeIn 2 T _ g1 _ hM1 hk (fun g2 c1 c2 => ?_)
  have hS2 := SG_row b1 c2
  obtain ⟨t1, t2⟩ := tk_same hk hb
  exact l_ic rfl (fun _ => fin g2 _ hS2 c1 t1 t2) (fun z => absurd rfl z)
set_option maxRecDepth 100000 in
set_option maxHeartbeats 4000000 in
theorem l_mean (len i N : Nat) (a : Nat → Int32) (Q : xQ) (T : xT) (g : xG) (hl : len ≤ 2048) (hi : 4 * i + 4 ≤ len) (hS : SG g T) (hM : MS g T) (hk : tOk T) (hb : tBd T N) (hN : N ≤ 600000) (k : ∀ (g' : xG) (T' : xT), SG g' T' → MS g' T' → tOk T' → tBd T' (N + 1020) → Lx len a Q 18 [some (.ref 0), some (.ref 1), some (.ref 157), some (.int (nI (4 * i + 4)))] [] g') : Lx len a Q 551 [some (.ref 0), some (.ref 1), some (.ref 157), some (.int (nI (4 * i)))] [] g := by
  have fin : ∀ (g' : xG) (T' : xT), SG g' T' → MS g' T' → tOk T' → tBd T' (N + 1020) → Lx len a Q 672 [some (.ref 0), some (.ref 1), some (.ref 157), some (.int (nI (4 * i)))] [] g' := by
    intro g' T' h1 h2 h3 h4
    refine l_to 18 60 rfl ?_
    simp only [nI_add]
    exact k g' T' h1 h2 h3 h4
  refine l_run 400 rfl ?_
  refine l_inv rfl rfl rfl ?_
  refine s_mean 7 N T g _ hS hk hb.1 hN ?_
  refine l_run 400 rfl ?_
  refine l_inv rfl rfl rfl ?_
  refine n_mean 7 N T g _ hM hk hb.1 hN ?_
  obtain ⟨t1, t2⟩ := tk_same hk hb
  exact l_ic rfl (fun _ => fin g T hS hM t1 t2) (fun z => absurd rfl z)
set_option maxRecDepth 100000 in
set_option maxHeartbeats 4000000 in
theorem l_count (len i N : Nat) (a : Nat → Int32) (Q : xQ) (T : xT) (g : xG) (hl : len ≤ 2048) (hi : 4 * i + 4 ≤ len) (hS : SG g T) (hM : MS g T) (hk : tOk T) (hb : tBd T N) (hN : N ≤ 600000) (k : ∀ (g' : xG) (T' : xT), SG g' T' → MS g' T' → tOk T' → tBd T' (N + 1020) → Lx len a Q 18 [some (.ref 0), some (.ref 1), some (.ref 157), some (.int (nI (4 * i + 4)))] [] g') : Lx len a Q 564 [some (.ref 0), some (.ref 1), some (.ref 157), some (.int (nI (4 * i)))] [] g := by
  have fin : ∀ (g' : xG) (T' : xT), SG g' T' → MS g' T' → tOk T' → tBd T' (N + 1020) → Lx len a Q 672 [some (.ref 0), some (.ref 1), some (.ref 157), some (.int (nI (4 * i)))] [] g' := by
    intro g' T' h1 h2 h3 h4
    refine l_to 18 60 rfl ?_
    simp only [nI_add]
    exact k g' T' h1 h2 h3 h4
  refine l_run 400 rfl ?_
  simp only [nI_add]
  refine l_sld (j := 4 * i + 1) rfl rfl (by omega) (by omega) ?_
  refine l_inv rfl rfl rfl ?_
  refine s_count 7 T _ g _ hS hk ?_
  refine l_run 400 rfl ?_
  simp only [nI_add]
  refine l_sld (j := 4 * i + 1) rfl rfl (by omega) (by omega) ?_
  refine l_inv rfl rfl rfl ?_
  refine n_count 6 T _ g _ hM hk ?_
  obtain ⟨t1, t2⟩ := tk_same hk hb
  exact l_ic rfl (fun _ => fin g T hS hM t1 t2) (fun z => absurd rfl z)
set_option maxRecDepth 100000 in
set_option maxHeartbeats 4000000 in
theorem l_undo (len i N : Nat) (a : Nat → Int32) (Q : xQ) (T : xT) (g : xG) (hl : len ≤ 2048) (hi : 4 * i + 4 ≤ len) (hS : SG g T) (hM : MS g T) (hk : tOk T) (hb : tBd T N) (hN : N ≤ 600000) (k : ∀ (g' : xG) (T' : xT), SG g' T' → MS g' T' → tOk T' → tBd T' (N + 1020) → Lx len a Q 18 [some (.ref 0), some (.ref 1), some (.ref 157), some (.int (nI (4 * i + 4)))] [] g') : Lx len a Q 587 [some (.ref 0), some (.ref 1), some (.ref 157), some (.int (nI (4 * i)))] [] g := by
  have fin : ∀ (g' : xG) (T' : xT), SG g' T' → MS g' T' → tOk T' → tBd T' (N + 1020) → Lx len a Q 672 [some (.ref 0), some (.ref 1), some (.ref 157), some (.int (nI (4 * i)))] [] g' := by
    intro g' T' h1 h2 h3 h4
    refine l_to 18 60 rfl ?_
    simp only [nI_add]
    exact k g' T' h1 h2 h3 h4
  refine l_run 400 rfl ?_
  refine l_inv rfl rfl rfl ?_
  refine s_undo 6 T  g _ hS hk (fun g1 b1 b2 => ?_)
  have hM1 := MS_row hM b2
  refine l_run 400 rfl ?_
  refine l_inv rfl rfl rfl ?_
  refine n_undo 8 T  g1 _ hM1 hk (fun g2 c1 c2 => ?_)
  have hS2 := SG_row b1 c2
  obtain ⟨t1, t2⟩ := tk_undo hk hb
  exact l_ic rfl (fun _ => fin g2 _ hS2 c1 t1 t2) (fun z => absurd rfl z)
set_option maxRecDepth 100000 in
set_option maxHeartbeats 4000000 in
theorem l_type (len i N : Nat) (a : Nat → Int32) (Q : xQ) (T : xT) (g : xG) (hl : len ≤ 2048) (hi : 4 * i + 4 ≤ len) (hS : SG g T) (hM : MS g T) (hk : tOk T) (hb : tBd T N) (hN : N ≤ 600000) (k : ∀ (g' : xG) (T' : xT), SG g' T' → MS g' T' → tOk T' → tBd T' (N + 1020) → Lx len a Q 18 [some (.ref 0), some (.ref 1), some (.ref 157), some (.int (nI (4 * i + 4)))] [] g') : Lx len a Q 600 [some (.ref 0), some (.ref 1), some (.ref 157), some (.int (nI (4 * i)))] [] g := by
  have fin : ∀ (g' : xG) (T' : xT), SG g' T' → MS g' T' → tOk T' → tBd T' (N + 1020) → Lx len a Q 672 [some (.ref 0), some (.ref 1), some (.ref 157), some (.int (nI (4 * i)))] [] g' := by
    intro g' T' h1 h2 h3 h4
    refine l_to 18 60 rfl ?_
    simp only [nI_add]
    exact k g' T' h1 h2 h3 h4
  refine l_run 400 rfl ?_
  simp only [nI_add]
  refine l_sld (j := 4 * i + 1) rfl rfl (by omega) (by omega) ?_
  refine l_inv rfl rfl rfl ?_
  refine s_type 7 T _ g _ hS hk (fun g1 b1 b2 => ?_)
  have hM1 := MS_row hM b2
  refine l_run 400 rfl ?_
  simp only [nI_add]
  refine l_sld (j := 4 * i + 1) rfl rfl (by omega) (by omega) ?_
  refine l_inv rfl rfl rfl ?_
  refine n_type 8 T _ g1 _ hM1 hk (fun g2 c1 c2 => ?_)
  have hS2 := SG_row b1 c2
  obtain ⟨t1, t2⟩ := tk_type (x := a (4 * i + 1)) hk hb
  exact l_ic rfl (fun _ => fin g2 _ hS2 c1 t1 t2) (fun z => absurd rfl z)
set_option maxRecDepth 100000 in
set_option maxHeartbeats 4000000 in
theorem l_clearText (len i N : Nat) (a : Nat → Int32) (Q : xQ) (T : xT) (g : xG) (hl : len ≤ 2048) (hi : 4 * i + 4 ≤ len) (hS : SG g T) (hM : MS g T) (hk : tOk T) (hb : tBd T N) (hN : N ≤ 600000) (k : ∀ (g' : xG) (T' : xT), SG g' T' → MS g' T' → tOk T' → tBd T' (N + 1020) → Lx len a Q 18 [some (.ref 0), some (.ref 1), some (.ref 157), some (.int (nI (4 * i + 4)))] [] g') : Lx len a Q 623 [some (.ref 0), some (.ref 1), some (.ref 157), some (.int (nI (4 * i)))] [] g := by
  have fin : ∀ (g' : xG) (T' : xT), SG g' T' → MS g' T' → tOk T' → tBd T' (N + 1020) → Lx len a Q 672 [some (.ref 0), some (.ref 1), some (.ref 157), some (.int (nI (4 * i)))] [] g' := by
    intro g' T' h1 h2 h3 h4
    refine l_to 18 60 rfl ?_
    simp only [nI_add]
    exact k g' T' h1 h2 h3 h4
  refine l_run 400 rfl ?_
  refine l_inv rfl rfl rfl ?_
  refine s_clearText 8 T g _ hS (fun g1 b1 b2 => ?_)
  have hM1 := MS_row hM b2
  refine l_run 400 rfl ?_
  refine l_inv rfl rfl rfl ?_
  refine n_clearText 9 T g1 _ hM1 (fun g2 c1 c2 => ?_)
  have hS2 := SG_row b1 c2
  obtain ⟨t1, t2⟩ := tk_clear hk hb
  exact l_ic rfl (fun _ => fin g2 _ hS2 c1 t1 t2) (fun z => absurd rfl z)
set_option maxRecDepth 100000 in
set_option maxHeartbeats 4000000 in
theorem l_fault (len i N : Nat) (a : Nat → Int32) (Q : xQ) (T : xT) (g : xG) (hl : len ≤ 2048) (hi : 4 * i + 4 ≤ len) (hS : SG g T) (hM : MS g T) (hk : tOk T) (hb : tBd T N) (hN : N ≤ 600000) (k : ∀ (g' : xG) (T' : xT), SG g' T' → MS g' T' → tOk T' → tBd T' (N + 1020) → Lx len a Q 18 [some (.ref 0), some (.ref 1), some (.ref 157), some (.int (nI (4 * i + 4)))] [] g') : Lx len a Q 636 [some (.ref 0), some (.ref 1), some (.ref 157), some (.int (nI (4 * i)))] [] g := by
  have fin : ∀ (g' : xG) (T' : xT), SG g' T' → MS g' T' → tOk T' → tBd T' (N + 1020) → Lx len a Q 672 [some (.ref 0), some (.ref 1), some (.ref 157), some (.int (nI (4 * i)))] [] g' := by
    intro g' T' h1 h2 h3 h4
    refine l_to 18 60 rfl ?_
    simp only [nI_add]
    exact k g' T' h1 h2 h3 h4
  refine l_run 400 rfl ?_
  simp only [nI_add]
  refine l_sld (j := 4 * i + 1) rfl rfl (by omega) (by omega) ?_
  refine l_inv rfl rfl rfl ?_
  refine s_fault 3 T _ g _ hS hk (fun g1 b1 b2 => ?_)
  have hM1 := MS_row hM b2
  refine l_run 400 rfl ?_
  simp only [nI_add]
  refine l_sld (j := 4 * i + 1) rfl rfl (by omega) (by omega) ?_
  refine l_inv rfl rfl rfl ?_
  refine n_fault 0 T _ g1 _ hM1 hk (fun g2 c1 c2 => ?_)
  have hS2 := SG_row b1 c2
  obtain ⟨t1, t2⟩ := tk_same hk hb
  exact l_ic rfl (fun _ => fin g2 _ hS2 c1 t1 t2) (fun z => absurd rfl z)
set_option maxRecDepth 100000 in
set_option maxHeartbeats 4000000 in
theorem l_play (len i N : Nat) (a : Nat → Int32) (Q : xQ) (T : xT) (g : xG) (hl : len ≤ 2048) (hi : 4 * i + 4 ≤ len) (hS : SG g T) (hM : MS g T) (hk : tOk T) (hb : tBd T N) (hN : N ≤ 600000) (k : ∀ (g' : xG) (T' : xT), SG g' T' → MS g' T' → tOk T' → tBd T' (N + 1020) → Lx len a Q 18 [some (.ref 0), some (.ref 1), some (.ref 157), some (.int (nI (4 * i + 4)))] [] g') : Lx len a Q 659 [some (.ref 0), some (.ref 1), some (.ref 157), some (.int (nI (4 * i)))] [] g := by
  have fin : ∀ (g' : xG) (T' : xT), SG g' T' → MS g' T' → tOk T' → tBd T' (N + 1020) → Lx len a Q 672 [some (.ref 0), some (.ref 1), some (.ref 157), some (.int (nI (4 * i)))] [] g' := by
    intro g' T' h1 h2 h3 h4
    refine l_to 18 60 rfl ?_
    simp only [nI_add]
    exact k g' T' h1 h2 h3 h4
  refine l_run 400 rfl ?_
  refine l_inv rfl rfl rfl ?_
  refine s_play 3 T  g _ hS hk (fun g1 b1 b2 => ?_)
  have hM1 := MS_row hM b2
  refine l_run 400 rfl ?_
  refine l_inv rfl rfl rfl ?_
  refine n_play 0 T  g1 _ hM1 hk (fun g2 c1 c2 => ?_)
  have hS2 := SG_row b1 c2
  obtain ⟨t1, t2⟩ := tk_play hk hb
  exact l_ic rfl (fun _ => fin g2 _ hS2 c1 t1 t2) (fun z => absurd rfl z)
