/-! ===== the beginning; what each call keeps ===== -/
def T0 : xT := (v0, 0, fun _ => v0, 0, fun _ => 0)
theorem y_made : ∃ w : xW × xG, yB = some w ∧ w.1 = SK ∧ SG w.2 T0 := by
  have h := y_runs
  cases hB : yB with
  | none => rw [hB] at h; cases h
  | some w =>
    rw [hB] at h
    dsimp only at h
    unfold y_facts at h
    rw [Bool.and_eq_true, List.all_eq_true] at h
    obtain ⟨h3, h4⟩ := h
    have f : ∀ a b v : Nat, (a, b, v) ∈ [(2, 3, 0), (2, 4, 1), (2, 5, 0), (2, 6, 0), (2, 7, 0), (2, 8, 0), (2, 9, 0), (3, 3, 0), (7, 8, 0), (7, 9, 0), (16, 5, 0), (16, 6, 0), (22, 1, 0), (22, 2, 0), (134, 1, 0)] → w.2 a b = nI v := fun a b v hm => of_decide_eq_true (h4 _ hm)
    refine ⟨w, rfl, of_decide_eq_true h3, ?_⟩
    refine ⟨0, ⟨⟨f 2 3 0 (by decide), f 2 4 1 (by decide), f 2 5 0 (by decide), f 2 6 0 (by decide), f 2 7 0 (by decide), f 2 8 0 (by decide), f 2 9 0 (by decide)⟩, f 3 3 0 (by decide), fun j hj => absurd hj (Nat.not_lt_zero _), ⟨?_, f 7 9 0 (by decide)⟩, fun j hj => absurd hj (Nat.not_lt_zero _), ⟨0, f 16 5 0 (by decide), by omega, f 16 6 0 (by decide), Nat.zero_le _, fun a _ ha => absurd ha (Nat.not_lt_zero _)⟩⟩, ⟨f 22 1 0 (by decide), by omega, f 22 2 0 (by decide)⟩, fun a ha => absurd ha (Nat.not_lt_zero _), f 134 1 0 (by decide), fun a ha => absurd ha (Nat.not_lt_zero _)⟩
    show x_mk (w.2 7 8) 0 _
    rw [f 7 8 0 (by decide)]
    exact x_mk_0 (fun i hi => absurd hi (Nat.not_lt_zero _))
theorem tOk_0 : tOk T0 := ⟨vOk_0, Nat.zero_le _, fun a ha => absurd ha (Nat.not_lt_zero _), Nat.zero_le _, fun a ha => absurd ha (Nat.not_lt_zero _)⟩
def tBd (T : xT) (N : Nat) : Prop := vBd (tV T) N ∧ ∀ a, a < tK T → vBd (tH T a) N
theorem tBd_0 : tBd T0 0 := ⟨fun p hp => absurd hp (Nat.not_lt_zero _), fun a ha => absurd ha (Nat.not_lt_zero _)⟩
theorem tBd_le {T : xT} {N M : Nat} (h : tBd T N) (hm : N ≤ M) : tBd T M := ⟨vBd_le h.1 hm, fun a ha => vBd_le (h.2 a ha) hm⟩
theorem tk_ch {T : xT} {E : Int32} {V' : xV} {N : Nat} (h : tOk T) (hb : tBd T N) (he : eE E) (hV : E = nI 0 → vOk V' ∧ vBd V' (N + 1020)) : tOk (pCh T E V') ∧ tBd (pCh T E V') (N + 1020) := by
  have h0 : ¬ E < 0 → E = nI 0 := fun z => he.resolve_left z
  refine ⟨tOk_ch h (fun z => (hV (h0 z)).1), ?_⟩
  unfold pCh
  split
  · exact tBd_le hb (by omega)
  · rename_i z
    refine ⟨(hV (h0 z)).2, fun a ha => ?_⟩
    have ha : a < min (tK T + 1) 4 := ha
    show vBd (if a = 0 then tV T else tH T (a - 1)) _
    split
    · exact vBd_le hb.1 (by omega)
    · exact vBd_le (hb.2 (a - 1) (by omega)) (by omega)
theorem vBd_player {V : xV} {N s e : Nat} (h : vBd V N) : vBd (vPlayer V s e) N := fun p hp => by
  have hp : p < vn V + 1 := hp
  show ∃ b, b ≤ N ∧ (if p = vn V then nI 0 else vbu V p) = nI b
  by_cases e : p = vn V
  · rw [if_pos e]
    exact ⟨0, Nat.zero_le _, rfl⟩
  · rw [if_neg e]
    exact h p (by omega)
theorem vBd_end {V : xV} {N T ph : Nat} (h : vBd V N) (hk : vOk V) (h1 : vph V = 1) (hT : T ≤ 17) : vBd (vEnd V T ph) (N + 17) := fun p hp => by
  have hp : p < vn V := hp
  obtain ⟨b, h2, h3⟩ := h p hp
  have hX := (vIv (V := V) (b := 0) (hk.2.2.1 h1).1 T).2.2.2.1 p
  show ∃ b, b ≤ N + 17 ∧ (if vin V p = true then vbu V p + nI (XB (vX V 0 T) p) else vbu V p) = nI b
  split
  · exact ⟨b + XB (vX V 0 T) p, by omega, by rw [h3, nI_add]⟩
  · exact ⟨b, by omega, h3⟩
theorem vBd_tk {W : xV} {N : Nat} (k : Nat) (h : vBd W N) : vBd (vTk k W) N := by
  obtain ⟨-, -, -, -, a5, -, -, -, -, a10⟩ := vTk_fix k W
  intro p hp
  rw [a5] at hp
  have e : vbu (vTk k W) = vbu W := by
    unfold vbu
    rw [a10]
  rw [e]
  exact h p hp
theorem vBd_stop {V : xV} {N : Nat} (h : vBd V N) (hk : vOk V) (e : eStop V = nI 0) : vBd (vStop V (vTT V 0)) (N + 17) := by
  have h1 := eStop_0 e
  have hT := (vT_ex (b := 0) (hk.2.2.1 h1).1 hk.1.2.2.2.2.1).1
  unfold vStop
  split
  · exact vBd_end h hk h1 hT
  · exact vBd_tk _ (vBd_end h hk h1 hT)
theorem vBd_ord {V : xV} {k a b N : Nat} (h : vBd V N) (hk : vOk V) (e : eOrd V k a b = nI 0) : vBd (vOrd V k a b) (N + 17) := by
  unfold eOrd at e
  unfold vOrd
  split
  · exact vBd_le (show vBd (vChair V _) N from h) (by omega)
  · rename_i z
    rw [if_neg z] at e
    split
    · exact vBd_le (vBd_player h) (by omega)
    · rename_i z
      rw [if_neg z] at e
      split
      · exact vBd_le (show vBd (vBeat V _) N from h) (by omega)
      · rename_i z
        rw [if_neg z] at e
        split
        · exact vBd_le (show vBd (vStart V) N from h) (by omega)
        · rename_i z
          rw [if_neg z] at e
          exact vBd_stop h hk e
theorem vBd_run {s : Nat → Nat} {L : Nat} : ∀ (f i n : Nat) {V : xV} {N : Nat}, vOk V → vBd V N → vBd (oRun s L f i n V).1 (N + 17 * f)
  | 0, _, _, _, _, _, h => h
  | f + 1, i, n, V, N, hk, h => by
    unfold oRun
    split
    · split
      · split
        · exact vBd_le h (by omega)
        · rename_i he
          rcases eOrd_e V _ _ _ with h2 | h2
          · exact absurd h2 he
          · exact vBd_le (vBd_run f _ _ (vOk_ord hk h2) (vBd_ord h hk h2)) (by omega)
      · exact vBd_le h (by omega)
    · exact vBd_le h (by omega)
section XB
variable {T : xT} {N : Nat}
theorem tk_chair {t : Int32} (h : tOk T) (hb : tBd T N) : tOk (pCh T (eChair (tV T) t) (vChair (tV T) (iN t))) ∧ tBd (pCh T (eChair (tV T) t) (vChair (tV T) (iN t))) (N + 1020) :=
  tk_ch h hb (by unfold eChair; exact eE_if (eE_if (eE_if eE_3 eE_0) eE_2) eE_1) (fun e => ⟨vOk_chair h.1 e, vBd_le (show vBd (vChair (tV T) _) N from hb.1) (by omega)⟩)
theorem tk_player {s e : Int32} (h : tOk T) (hb : tBd T N) : tOk (pCh T (ePlayer (tV T) s e) (vPlayer (tV T) (iN s) (iN e))) ∧ tBd (pCh T (ePlayer (tV T) s e) (vPlayer (tV T) (iN s) (iN e))) (N + 1020) :=
  tk_ch h hb (by unfold ePlayer; exact eE_if (eE_if (eE_if eE_3 eE_0) eE_2) eE_1) (fun e => ⟨vOk_player h.1 e, vBd_le (vBd_player hb.1) (by omega)⟩)
theorem tk_tune {j t : Int32} (h : tOk T) (hb : tBd T N) : tOk (pCh T (eTune (tV T) j t) (vTune (tV T) (iN j) (iN t))) ∧ tBd (pCh T (eTune (tV T) j t) (vTune (tV T) (iN j) (iN t))) (N + 1020) :=
  tk_ch h hb (by unfold eTune; exact eE_if eE_0 eE_1) (fun e => ⟨vOk_tune h.1 e, vBd_le (show vBd (vTune (tV T) _ _) N from hb.1) (by omega)⟩)
theorem tk_train {q s e : Int32} (h : tOk T) (hb : tBd T N) : tOk (pCh T (eTrain (tV T) q s e) (vTrain (tV T) (iN q) (iN s) (iN e))) ∧ tBd (pCh T (eTrain (tV T) q s e) (vTrain (tV T) (iN q) (iN s) (iN e))) (N + 1020) :=
  tk_ch h hb (by unfold eTrain; exact eE_if eE_0 eE_1) (fun e => ⟨vOk_train h.1 e, vBd_le (show vBd (vTrain (tV T) _ _ _) N from hb.1) (by omega)⟩)
theorem tk_start (h : tOk T) (hb : tBd T N) : tOk (pCh T (eStart (tV T)) (vStart (tV T))) ∧ tBd (pCh T (eStart (tV T)) (vStart (tV T))) (N + 1020) :=
  tk_ch h hb (by unfold eStart; exact eE_if eE_0 eE_2) (fun e => ⟨vOk_start h.1 e, vBd_le (show vBd (vStart (tV T)) N from hb.1) (by omega)⟩)
theorem tk_beat {b : Int32} (h : tOk T) (hb : tBd T N) : tOk (pCh T (eBeat (tV T) b) (vBeat (tV T) (iN b))) ∧ tBd (pCh T (eBeat (tV T) b) (vBeat (tV T) (iN b))) (N + 1020) :=
  tk_ch h hb (by unfold eBeat; exact eE_if (eE_if (eE_if eE_0 eE_3) eE_2) eE_1) (fun e => ⟨vOk_beat h.1 e, vBd_le (show vBd (vBeat (tV T) _) N from hb.1) (by omega)⟩)
theorem tk_stop (h : tOk T) (hb : tBd T N) : tOk (pCh T (eStop (tV T)) (vStop (tV T) (vTT (tV T) 0))) ∧ tBd (pCh T (eStop (tV T)) (vStop (tV T) (vTT (tV T) 0))) (N + 1020) :=
  tk_ch h hb (by unfold eStop; exact eE_if eE_0 eE_2) (fun e => ⟨vOk_stop h.1 e, vBd_le (vBd_stop hb.1 h.1 e) (by omega)⟩)
theorem tk_set {w v : Int32} (h : tOk T) (hb : tBd T N) : tOk (pCh T (eSet w v) (vSet (tV T) (iN v))) ∧ tBd (pCh T (eSet w v) (vSet (tV T) (iN v))) (N + 1020) :=
  tk_ch h hb (by unfold eSet; exact eE_if eE_0 eE_1) (fun e => ⟨vOk_set h.1 e, vBd_le (show vBd (vSet (tV T) _) N from hb.1) (by omega)⟩)
theorem tk_play (h : tOk T) (hb : tBd T N) : tOk (pCh T (ePlay T) (tRun T).1) ∧ tBd (pCh T (ePlay T) (tRun T).1) (N + 1020) :=
  tk_ch h hb (by unfold ePlay; exact eE_if eE_0 eE_2) (fun e => ⟨oRun_ok _ _ _ h.1, vBd_run 60 0 0 h.1 hb.1⟩)
theorem tk_same (h : tOk T) (hb : tBd T N) : tOk T ∧ tBd T (N + 1020) := ⟨h, tBd_le hb (by omega)⟩
theorem tk_undo (h : tOk T) (hb : tBd T N) : tOk (pUndo T) ∧ tBd (pUndo T) (N + 1020) := by
  refine ⟨tOk_undo h, tBd_le ?_ (show N ≤ N + 1020 by omega)⟩
  unfold pUndo
  split
  · exact hb
  · rename_i z
    exact ⟨hb.2 0 (by omega), fun a ha => hb.2 (a + 1) (by have ha : a < tK T - 1 := ha; omega)⟩
theorem tk_type {x : Int32} (h : tOk T) (hb : tBd T N) : tOk (pType T x) ∧ tBd (pType T x) (N + 1020) := by
  refine ⟨tOk_type h, tBd_le ?_ (show N ≤ N + 1020 by omega)⟩
  unfold pType
  split
  · exact hb
  · exact hb
theorem tk_clear (h : tOk T) (hb : tBd T N) : tOk (pClear T) ∧ tBd (pClear T) (N + 1020) := ⟨tOk_clear h, tBd_le (show tBd (pClear T) N from hb) (by omega)⟩
end XB
