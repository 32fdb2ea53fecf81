/-! ===== the reference's changes but stop ===== -/
theorem MG_P {f : Nat → Int32} {V : xV} {P P' : Nat → Nat} (h : MG f V P) (e : vph V = 1 → ∀ p, p < vn V → vin V p = true → P p = P' p) : MG f V P' := by
  obtain ⟨h1, h2, h3, h4⟩ := h
  refine ⟨h1, h2, fun p hp => ?_, h4⟩
  obtain ⟨z1, z2, z3, z4, z5⟩ := h3 p hp
  exact ⟨z1, z2, z3, fun a b => by rw [← e a p hp b]; exact z4 a b, z5⟩
theorem MS_ch {g g1 g2 : xG} {T : xT} {V' : xV} (h : MS g T) (r1 : g1 157 4 = nI (min (tK T + 1) 4)) (r2 : ∀ a, a < min (tK T + 1) 4 → MG (fun k => g1 161 (233 * (min (tK T + 1) 4 - 1 - a) + k)) (tPush (tV T) (tH T) a) (vpl (tPush (tV T) (tH T) a))) (r3 : ∀ j, j ≠ 4 → g1 157 j = g 157 j) (r4 : ∀ r, r ≠ 157 → r ≠ 161 → g1 r = g r) (hV : MG (g2 158) V' (vpl V')) (f : ∀ a, a ≠ 158 → g2 a = g1 a) : MS g2 (V', min (tK T + 1) 4, tPush (tV T) (tH T), tL T, tX T) := by
  obtain ⟨h1, h2, h3, h4, h5⟩ := h
  refine ⟨hV, ?_, fun a ha => ?_, ?_, fun i hi => ?_⟩
  · rw [f 157 (by decide)]
    exact r1
  · rw [f 161 (by decide)]
    exact r2 a ha
  · rw [f 157 (by decide), r3 6 (by decide)]
    exact h4
  · rw [f 162 (by decide), r4 162 (by decide) (by decide)]
    exact h5 i hi
set_option maxHeartbeats 4000000 in
theorem n_chair (d : Nat) (T : xT) (t : Int32) (g : xG) (Q : xQ) (h : MS g T) (hk : tOk T) (k : ∀ g' : xG, MS g' (pCh T (eChair (tV T) t) (vChair (tV T) (iN t))) → (∀ a, a < 157 → g' a = g a) → Q (some (.int (aCh (eChair (tV T) t) (vc (tV T))))) g') : Cx (d + 4) i_Md_chair [.ref 157, .int t] g Q := by
  have hvk := hk.1
  obtain ⟨⟨v1, v2, v3, v4, v5, v6⟩, -, vc1, vt8, -, wpl, wpp⟩ := id hvk
  refine r_cl (L0 := [some (.ref 157), some (.int t), none]) rfl (Or.inr ⟨_, _, _, rfl, rfl⟩) rfl rfl rfl ?_
  refine r_run 400 rfl rfl ?_
  refine r_inv rfl rfl rfl ?_
  refine m_errorChair (d + 1) (tV T) _ t g _ h.1 v1 v5 ?_
  refine r_run 400 rfl rfl ?_
  unfold pCh aCh at k
  refine r_ge0 rfl (fun z => ?_) (fun z => ?_)
  · have hz : ¬ (eChair (tV T) t) < 0 := Int32.not_lt.mpr z
    rw [if_neg hz] at k
    rw [if_neg hz] at k
    have he : (eChair (tV T) t) = nI 0 := by
      have : eE (eChair (tV T) t) := by
        unfold eChair; exact eE_if (eE_if (eE_if eE_3 eE_0) eE_2) eE_1
      exact this.resolve_left hz
    refine r_run 400 rfl rfl ?_
    refine r_inv rfl rfl rfl ?_
    refine m_records (d + 1) T g _ h hk (fun g1 r1 r2 r3 r4 => ?_)
    refine r_run 400 rfl rfl ?_
    refine r_inv rfl rfl rfl ?_
    have h158 : g1 158 = g 158 := r4 158 (by decide) (by decide)
    obtain ⟨e1, e2, e3⟩ := eChair_0 he
    refine m_goChair (d + 1) (tV T) _ t g1 _ (by rw [h158]; exact h.1) (by omega) v6 (fun g2 b1 b2 => ?_)
    refine r_iret rfl rfl (k g2 (MS_ch h r1 r2 r3 r4 b1 b2) (fun a ha => by rw [b2 a (by omega), r4 a (by omega) (by omega)]))
  · have hz : (eChair (tV T) t) < 0 := Int32.not_le.mp z
    rw [if_pos hz] at k
    rw [if_pos hz] at k
    refine r_run 400 rfl rfl ?_
    exact r_iret rfl rfl (k g h (fun _ _ => rfl))
set_option maxHeartbeats 4000000 in
theorem n_player (d : Nat) (T : xT) (s e : Int32) (g : xG) (Q : xQ) (h : MS g T) (hk : tOk T) (k : ∀ g' : xG, MS g' (pCh T (ePlayer (tV T) s e) (vPlayer (tV T) (iN s) (iN e))) → (∀ a, a < 157 → g' a = g a) → Q (some (.int (aCh (ePlayer (tV T) s e) (vn (tV T))))) g') : Cx (d + 4) i_Md_player [.ref 157, .int s, .int e] g Q := by
  have hvk := hk.1
  obtain ⟨⟨v1, v2, v3, v4, v5, v6⟩, -, vc1, vt8, -, wpl, wpp⟩ := id hvk
  refine r_cl (L0 := [some (.ref 157), some (.int s), some (.int e), none]) rfl (Or.inr ⟨_, _, _, rfl, rfl⟩) rfl rfl rfl ?_
  refine r_run 400 rfl rfl ?_
  refine r_inv rfl rfl rfl ?_
  refine m_errorPlayer (d + 1) (tV T) _ s e g _ h.1 v1 v6 ?_
  refine r_run 400 rfl rfl ?_
  unfold pCh aCh at k
  refine r_ge0 rfl (fun z => ?_) (fun z => ?_)
  · have hz : ¬ (ePlayer (tV T) s e) < 0 := Int32.not_lt.mpr z
    rw [if_neg hz] at k
    rw [if_neg hz] at k
    have he : (ePlayer (tV T) s e) = nI 0 := by
      have : eE (ePlayer (tV T) s e) := by
        unfold ePlayer; exact eE_if (eE_if (eE_if eE_3 eE_0) eE_2) eE_1
      exact this.resolve_left hz
    refine r_run 400 rfl rfl ?_
    refine r_inv rfl rfl rfl ?_
    refine m_records (d + 1) T g _ h hk (fun g1 r1 r2 r3 r4 => ?_)
    refine r_run 400 rfl rfl ?_
    refine r_inv rfl rfl rfl ?_
    have h158 : g1 158 = g 158 := r4 158 (by decide) (by decide)
    obtain ⟨e1, e2, e3⟩ := ePlayer_0 he
    refine m_goPlayer (d + 1) (tV T) _ s e g1 _ (by rw [h158]; exact h.1) v5 (by omega) (by omega) (fun g2 b1 b2 => ?_)
    refine r_iret rfl rfl (k g2 (MS_ch h r1 r2 r3 r4 (MG_P b1 (fun z => by have z : vph (tV T) = 1 := z; omega)) b2) (fun a ha => by rw [b2 a (by omega), r4 a (by omega) (by omega)]))
  · have hz : (ePlayer (tV T) s e) < 0 := Int32.not_le.mp z
    rw [if_pos hz] at k
    rw [if_pos hz] at k
    refine r_run 400 rfl rfl ?_
    exact r_iret rfl rfl (k g h (fun _ _ => rfl))
set_option maxHeartbeats 4000000 in
theorem n_start (d : Nat) (T : xT)  (g : xG) (Q : xQ) (h : MS g T) (hk : tOk T) (k : ∀ g' : xG, MS g' (pCh T (eStart (tV T)) (vStart (tV T))) → (∀ a, a < 157 → g' a = g a) → Q (some (.int (aCh (eStart (tV T)) (x_cnt (vin (tV T)) (vn (tV T)))))) g') : Cx (d + 4) i_Md_start [.ref 157] g Q := by
  have hvk := hk.1
  obtain ⟨⟨v1, v2, v3, v4, v5, v6⟩, -, vc1, vt8, -, wpl, wpp⟩ := id hvk
  refine r_cl (L0 := [some (.ref 157), none]) rfl (Or.inr ⟨_, _, _, rfl, rfl⟩) rfl rfl rfl ?_
  refine r_run 400 rfl rfl ?_
  refine r_inv rfl rfl rfl ?_
  refine m_errorStart d (tV T) _ g _ h.1 v1 v5 v6 ?_
  refine r_run 400 rfl rfl ?_
  unfold pCh aCh at k
  refine r_ge0 rfl (fun z => ?_) (fun z => ?_)
  · have hz : ¬ (eStart (tV T)) < 0 := Int32.not_lt.mpr z
    rw [if_neg hz] at k
    rw [if_neg hz] at k
    have he : (eStart (tV T)) = nI 0 := by
      have : eE (eStart (tV T)) := by
        unfold eStart; exact eE_if eE_0 eE_2
      exact this.resolve_left hz
    refine r_run 400 rfl rfl ?_
    refine r_inv rfl rfl rfl ?_
    refine m_records (d + 1) T g _ h hk (fun g1 r1 r2 r3 r4 => ?_)
    refine r_run 400 rfl rfl ?_
    refine r_inv rfl rfl rfl ?_
    have h158 : g1 158 = g 158 := r4 158 (by decide) (by decide)
    refine m_goStart d (tV T) _ g1 _ (by rw [h158]; exact h.1) hvk he (fun g2 b1 b2 => ?_)
    refine r_iret rfl rfl (k g2 (MS_ch h r1 r2 r3 r4 b1 b2) (fun a ha => by rw [b2 a (by omega), r4 a (by omega) (by omega)]))
  · have hz : (eStart (tV T)) < 0 := Int32.not_le.mp z
    rw [if_pos hz] at k
    rw [if_pos hz] at k
    refine r_run 400 rfl rfl ?_
    exact r_iret rfl rfl (k g h (fun _ _ => rfl))
set_option maxHeartbeats 4000000 in
theorem n_beat (d : Nat) (T : xT) (b : Int32) (g : xG) (Q : xQ) (h : MS g T) (hk : tOk T) (k : ∀ g' : xG, MS g' (pCh T (eBeat (tV T) b) (vBeat (tV T) (iN b))) → (∀ a, a < 157 → g' a = g a) → Q (some (.int (aCh (eBeat (tV T) b) (vbt (tV T) + iN b)))) g') : Cx (d + 4) i_Md_beat [.ref 157, .int b] g Q := by
  have hvk := hk.1
  obtain ⟨⟨v1, v2, v3, v4, v5, v6⟩, -, vc1, vt8, -, wpl, wpp⟩ := id hvk
  refine r_cl (L0 := [some (.ref 157), some (.int b), none]) rfl (Or.inr ⟨_, _, _, rfl, rfl⟩) rfl rfl rfl ?_
  refine r_run 400 rfl rfl ?_
  refine r_inv rfl rfl rfl ?_
  refine m_errorBeat (d + 1) (tV T) _ b g _ h.1 v1 v4 ?_
  refine r_run 400 rfl rfl ?_
  unfold pCh aCh at k
  refine r_ge0 rfl (fun z => ?_) (fun z => ?_)
  · have hz : ¬ (eBeat (tV T) b) < 0 := Int32.not_lt.mpr z
    rw [if_neg hz] at k
    rw [if_neg hz] at k
    have he : (eBeat (tV T) b) = nI 0 := by
      have : eE (eBeat (tV T) b) := by
        unfold eBeat; exact eE_if (eE_if (eE_if eE_0 eE_3) eE_2) eE_1
      exact this.resolve_left hz
    refine r_run 400 rfl rfl ?_
    refine r_inv rfl rfl rfl ?_
    refine m_records (d + 1) T g _ h hk (fun g1 r1 r2 r3 r4 => ?_)
    refine r_run 400 rfl rfl ?_
    refine r_inv rfl rfl rfl ?_
    have h158 : g1 158 = g 158 := r4 158 (by decide) (by decide)
    obtain ⟨e1, e2, e3⟩ := eBeat_0 he
    have hb : b = nI (iN b) := (nI_iN b).symm
    have hgo := m_goBeat d (iN b) (tV T) (vpl (tV T)) g1 (fun v g2 => Rx (d + 3) m_Md_beat Q 21 [some (.ref 157), some (.int b), some (.int (eBeat (tV T) b))] (v.toList ++ []) g2) (by rw [h158]; exact h.1) v5 v6 (vc1 e2).1 (fun p hp => (wpl p hp).1) (fun p hp _ => (wpl p hp).2.2.1) e2 (by omega) (fun g2 b1 b2 => ?_)
    · rw [nI_iN] at hgo
      exact hgo
    · refine r_iret rfl rfl (k g2 (MS_ch h r1 r2 r3 r4 (MG_P b1 (fun _ p hp hi => ?_)) b2) (fun a ha => by rw [b2 a (by omega), r4 a (by omega) (by omega)]))
      have hi : vin (tV T) p = true := hi
      show _ = if vin (tV T) p = true then _ else _
      rw [if_pos hi]
  · have hz : (eBeat (tV T) b) < 0 := Int32.not_le.mp z
    rw [if_pos hz] at k
    rw [if_pos hz] at k
    refine r_run 400 rfl rfl ?_
    exact r_iret rfl rfl (k g h (fun _ _ => rfl))
