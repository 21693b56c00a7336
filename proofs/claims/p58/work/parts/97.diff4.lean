/-! difference, the call. -/
noncomputable section
/-- noteGoals -/
theorem d58 {σ : Sg} {D : Nat} (h3 : σ 653 1 = 6 * (D : Int)) (hD : D < 10) (h5 : σ 655 1 = 6) : ∃ s, Dd 58 [vA 614] σ (rI (D : Nat) s) ∧ s 653 1 = 6 * (D : Int) + 6 ∧ (∀ i, i < 6 * D → s 654 i = σ 654 i) ∧ (∀ i, i < 6 → s 654 (6 * D + i) = σ 656 i) ∧ ∀ c k, ¬ c = 653 → ¬ c = 654 → s c k = σ c k := by
  have hA : Rw σ 653 (rl σ 653) := Rw_rl (by omega)
  have hB : Rw σ 655 (rl σ 655) := Rw_rl (by omega)
  have lA : (rl σ 653).length = 6 * D := by have := hA.1; omega
  have lB : (rl σ 655).length = 6 := by have := hB.1; omega
  have e5 : (((rl σ 655).take (6 : Int).toNat).drop (0 : Int).toNat) = rl σ 655 := by
    show ((rl σ 655).take 6).drop 0 = rl σ 655
    rw [List.drop_zero, List.take_of_length_le (by omega)]
  obtain ⟨s, g1, g2, g3⟩ := d154 (x := 0) (y := 6) r653.1 r653.2.2.1 hA hB (by rw [r653.2.2.2]; omega) (by decide) (by rw [e5, r653.2.1]; omega)
  rw [e5] at g2
  have e653 : s 653 1 = 6 * ((D + 1 : Nat) : Int) := by rw [g2.1, List.length_append]; omega
  have e146 := d146 (σ := σ) r653.2.2.1
  rw [h5] at e146
  have gA : ∀ i, i < 6 * D → (rl σ 653)[i]? = some (σ 654 i) := fun i hi => by
    unfold rl
    rw [List.getElem?_map, List.getElem?_range (by omega)]
    rfl
  have gB : ∀ i, i < 6 → (rl σ 655)[i]? = some (σ 656 i) := fun i hi => by
    unfold rl
    rw [List.getElem?_map, List.getElem?_range (by omega)]
    rfl
  refine ⟨s, b58 ⟨_, _, e146, _, g1, _, _, d54_ok e653, by omega, ?_⟩, by omega, fun i hi => ?_, fun i hi => ?_, fun c k h1 h2 => g3 c k h1 h2⟩
  · rw [show ((D + 1 : Nat) : Int) - 1 = (D : Int) by omega]
  · exact g2.2 i _ (by rw [List.getElem?_append_left (by omega)]; exact gA i hi)
  · exact g2.2 _ _ (by rw [List.getElem?_append_right (by omega), lA, Nat.add_sub_cancel_left]; exact gB i hi)
/-- Forest.findDifference -/
theorem d56 {σ : Sg} {D t u : Nat} {sm : Nat → Nat → Bool} (w : WF σ) (ht : t < 3) (hu : u < 3) (h3 : σ 653 1 = 6 * (D : Int)) (hD : D < 10) (hsm : ∀ n e, n < 6 → e < 6 → (sm n e = true ↔ smP σ (616 + 2 * (6 * t + n)) (616 + 2 * (6 * u + e)))) : ∃ s1 s, Dd 56 [vA 614, vI t, vI u] σ (rI (D : Nat) s) ∧ CT σ s1 (sN (hv σ t) (hv σ u) (fun n e => lkF σ (6 * t + n) (6 * u + e)) 6 (pO (hv σ t) (hv σ u) sm 6 (ts0 (hv σ t) (hv σ u)))) ∧ s 653 1 = 6 * (D : Int) + 6 ∧ (∀ i, i < 6 * D → s 654 i = s1 654 i) ∧ (∀ i, i < 6 → s 654 (6 * D + i) = s1 656 i) ∧ ∀ c k, ¬ c = 653 → ¬ c = 654 → s c k = s1 c k := by
  have e153 := d153 (σ := σ) (a := 655) (n := 6) (v := -1) r653.2.2.1
  have f0 : ∀ c k, ¬ (c = 655 ∧ k = 1) → ¬ c = 656 → flS σ 655 6 (-1) c k = σ c k := by
    intro c k y1 y2
    by_cases y : c = 655
    · subst y
      unfold flS flS1
      rw [if_neg (by omega), up_k (by omega)]
    · exact fl_off y y2
  have f1 : flS σ 655 6 (-1) 655 1 = 6 := fl_sz (by decide) (by rw [r653.2.2.2]; decide)
  have f2 : ∀ n : Nat, n < 6 → flS σ 655 6 (-1) 656 n = -1 := fun n hn => fl_val (a := 655) (by decide) (by rw [r653.2.2.2]; decide) (by omega)
  generalize flS σ 655 6 (-1) = s0 at e153 f0 f1 f2
  have W0 : WF s0 := WF_row (r := 655) (fun a ha hne => f0 a 1 (fun e => hne e.1) (row_nx r653.2.2.1 ha)) (by rw [f1, r653.2.2.2]; decide) w
  have L : ∀ (d k : Nat) (σ' : Sg), k + d = 6 → (∀ c x, ¬ c = 657 → σ' c x = s0 c x) → (∀ n, n < k → σ' 657 n = 0) → ∃ σ'', (∀ {o : Rs}, (∀ d3, C56_40 t u d3 σ'' o) → C56_12 t u k σ' o) ∧ (∀ c x, ¬ c = 657 → σ'' c x = s0 c x) ∧ ∀ n, n < 6 → σ'' 657 n = 0 := by
    intro d
    induction d with
    | zero =>
      intro k σ' hk hF h0
      refine ⟨σ', fun {o} hh => b56_12 ?_, hF, fun n hn => h0 n (by omega)⟩
      rw [if_neg (by omega)]
      exact hh _
    | succ d ih =>
      intro k σ' hk hF h0
      obtain ⟨σ'', a1, a2, a3⟩ := ih (k + 1) (upS σ' 657 k 0) (by omega) (fun c x hc => by rw [up_a hc]; exact hF c x hc) (fun n hn => by
        by_cases y : n = k
        · rw [y, up_s]
        · rw [up_k y]; exact h0 n (by omega))
      refine ⟨σ'', fun {o} hh => b56_12 ?_, a2, a3⟩
      rw [if_pos (by omega), if_pos (by omega), show ((k : Nat) : Int).toNat = k by omega, show (k : Int) + 1 = ((k + 1 : Nat) : Int) by omega]
      exact ⟨by omega, by omega, a1 hh⟩
  obtain ⟨s1, a1, a2, a3⟩ := L 6 0 s0 (by omega) (fun _ _ _ => rfl) (fun n hn => absurd hn (Nat.not_lt_zero n))
  have C0 : CT σ s1 (fun _ => -1, fun _ => 0) := by
    refine ⟨WF_e (fun a ha => a2 a 1 ?_) W0, fun c k y1 y2 y3 y4 y5 y6 => by rw [a2 c k y5]; exact f0 c k y6 y4, by rw [a2 _ _ (by decide)]; exact f1, fun n hn => ⟨by rw [a2 _ _ (by decide)]; exact f2 n hn, a3 n hn⟩⟩
    intro q
    subst q
    exact absurd ha (by decide +kernel)
  obtain ⟨s2, c1, c2⟩ := d60 ht hu C0
  obtain ⟨s3, e1, e2⟩ := d61 ht hu hsm c2
  have L2 : ∀ (d : Nat) (σ' : Sg) (s : TS), d ≤ 6 → CT σ σ' s → ∃ σ'', (∀ {o : Rs}, (∃ (v5 : Int) (s4 : Sg), Dd 58 [vA 614] σ'' (rI v5 s4) ∧ o = rI v5 s4) → C56_54 t u ((6 - d : Nat) : Int) σ' o) ∧ CT σ σ'' (sN (hv σ t) (hv σ u) (fun n e => lkF σ (6 * t + n) (6 * u + e)) d s) := by
    intro d
    induction d with
    | zero =>
      intro σ' s hd C
      refine ⟨σ', fun {o} hh => b56_54 ?_, C⟩
      rw [if_neg (by omega)]
      exact hh
    | succ d ih =>
      intro σ' s hd C
      obtain ⟨σ1, g1, g2⟩ := d62 ht hu C
      obtain ⟨σ'', h1, h2⟩ := ih σ1 _ (by omega) g2
      refine ⟨σ'', fun {o} hh => b56_54 ?_, h2⟩
      rw [if_pos (by omega), show ((6 - (d + 1) : Nat) : Int) + 1 = ((6 - d : Nat) : Int) by omega]
      exact ⟨_, g1, by omega, h1 hh⟩
  obtain ⟨s4, g1, g2⟩ := L2 6 s3 _ (by omega) e2
  have n653 : ∀ c k, 616 ≤ c → c ≤ 654 → s4 c k = σ c k := fun c k y1 y2 => g2.2.1 c k (by omega) (by omega) (by omega) (by omega) (by omega) (by omega)
  obtain ⟨s5, h1, h2, h3', h4, h5⟩ := d58 (σ := s4) (D := D) (by rw [n653 _ _ (by decide) (by decide)]; exact h3) hD g2.2.2.1
  exact ⟨s4, s5, b56 ⟨_, e153, a1 (fun d3 => b56_40 ⟨_, c1, _, e1, g1 ⟨_, _, h1, rfl⟩⟩)⟩, g2, h2, h3', h4, h5⟩
/-- only the trees' differences are new -/
theorem Rel_F2 {σ s : Sg} {c : Int} (H : Rel c σ) (w : WF s) (hF : RF s) (h : ∀ a x, KP a x → ¬ (616 ≤ a ∧ a ≤ 654) → ¬ (717 ≤ a ∧ a ≤ 720) → ¬ (a = 682 ∧ x = 53) → s a x = σ a x) : Rel (c + 1) s := by
  obtain ⟨h1, h2, h3, h4, h5, h6, h7, h8, h9⟩ := H
  exact ⟨w, Zl_fr (fun k => h _ _ (kp_12 rfl) (by omega) (by omega) (by omega)) h2, RT_fr (fun c k hc => h _ _ (kq_T hc) (by omega) (by omega) (by omega)) h3, RB_fr (fun c k hc => h _ _ (kq_B hc) (by omega) (by omega) (by omega)) h4, RP_fr (fun c k hc => h _ _ (kq_P hc) (by omega) (by omega) (by omega)) h5, RSt_fr (by omega) (fun c k hc => h _ _ (kq_S hc) (by omega) (by omega) (by omega)) h6, RU_fr (fun c k hc => h _ _ (kq_U hc) (by omega) (by omega) (by omega)) h7, hF, RD_fr (fun c k hc => h _ _ (kq_D hc) (by omega) (by omega) (by omega)) h9⟩
theorem o44 {σ : Sg} {c a1 a2 : Int} (H : Rel c σ) : OpR 432 374 [vA 0, vI a1, vI a2, vA 726] [vA 682, vI a1, vI a2] σ (c + 1) := by
  by_cases g1 : a1 < 0
  · exact x44_0 H g1
  by_cases g2 : 3 ≤ a1
  · exact x44_1 H g2
  by_cases g3 : a2 < 0
  · exact x44_2 H (by omega) g3
  by_cases g4 : 3 ≤ a2
  · exact x44_3 H (by omega) g4
  obtain ⟨t, rfl⟩ := Int.eq_ofNat_of_zero_le (show 0 ≤ a1 by omega)
  obtain ⟨u, rfl⟩ := Int.eq_ofNat_of_zero_le (show 0 ≤ a2 by omega)
  have hn := (rel_n H).2.2.2.1
  obtain ⟨D, hD⟩ := Int.eq_ofNat_of_zero_le hn.2.1
  have e653 : σ 653 1 = 6 * (D : Int) := by omega
  have e54 := d54_ok (σ := σ) e653
  have e232a := d232_ok (σ := σ) (i := (t : Int)) (n := 3) (by omega)
  have e232b := d232_ok (σ := σ) (i := (u : Int)) (n := 3) (by omega)
  have m0 : ∀ {s : Sg} {o : Rs}, s 682 53 = (D : Nat) → C374_35 t u none none none (if (D : Int) = 10 then 2 else 0) s o → Dd 374 [vA 682, vI t, vI u] s o := by
    intro s o h hh
    have q1 := d246 (x := (t : Int)) (n := 3) (σ := s)
    rw [if_pos (by omega)] at q1
    have q2 := d246 (x := (u : Int)) (n := 3) (σ := s)
    rw [if_pos (by omega)] at q2
    refine b374 ⟨_, _, q1, ?_⟩
    rw [if_neg (show ¬ (1 : Int) = 0 by decide)]
    refine ⟨_, _, q2, ?_⟩
    rw [if_neg (show ¬ (1 : Int) = 0 by decide), h]
    exact hh
  by_cases g5 : 10 ≤ D
  · have hA : Dd 216 [vA 0, vI t, vI u] σ (rX 2 σ) := b216 (Or.inl ⟨_, e232a, Or.inl ⟨_, e232b, Or.inr ⟨_, _, b239 ⟨_, _, e54, by rw [if_pos (by omega)]⟩, rfl⟩⟩⟩)
    refine op_x H (kx := 2) (b := 0) (by decide) (b432 (Or.inr (Or.inr ⟨_, hA, rfl⟩))) (m0 hD ?_)
    rw [if_pos (by omega)]
    refine b374_35 ⟨_, _, d245, ?_⟩
    rw [if_neg (show ¬ (2 : Int) = 0 by decide), if_pos rfl]
  obtain ⟨sm, hsm⟩ : ∃ sm : Nat → Nat → Bool, ∀ n e, n < 6 → e < 6 → (sm n e = true ↔ smP σ (616 + 2 * (6 * t + n)) (616 + 2 * (6 * u + e))) := ⟨fun n e => @decide _ (Classical.propDecidable (smP σ (616 + 2 * (6 * t + n)) (616 + 2 * (6 * u + e)))), fun n e _ _ => ⟨fun h => @of_decide_eq_true _ (Classical.propDecidable _) h, fun h => @decide_eq_true _ (Classical.propDecidable _) h⟩⟩
  obtain ⟨q1, q2, q3, q4, q5⟩ := H.2.2.2.2.2.2.2.1
  obtain ⟨s1, s, c1, c2, c3, c4, c5, c6⟩ := d56 (D := D) (t := t) (u := u) H.1 (by omega) (by omega) e653 (by omega) hsm
  have hA : Dd 432 [vA 0, vI t, vI u, vA 726] σ (rI 0 (upS s 726 ((0 : Int).toNat) (D : Nat))) := b432 (Or.inl ⟨_, _, b216 (Or.inl ⟨_, e232a, Or.inl ⟨_, e232b, Or.inl ⟨_, b239 ⟨_, _, e54, by rw [if_neg (by omega)]⟩, _, _, c1, rfl⟩⟩⟩), rfl⟩)
  have sf : ∀ a x, ¬ (333 ≤ a ∧ a ≤ 338) → ¬ (a = 343 ∧ x = 1) → ¬ a = 349 → ¬ (653 ≤ a ∧ a ≤ 657) → s a x = σ a x := fun a x y1 y2 y3 y4 => by rw [c6 a x (by omega) (by omega)]; exact c2.2.1 a x y1 y2 y3 (by omega) (by omega) (by omega)
  obtain ⟨s0, hs0⟩ : ∃ s0, s0 = upS (upS s 726 ((0 : Int).toNat) (D : Nat)) 682 0 0 := ⟨_, rfl⟩
  have s0f : ∀ a x, 658 ≤ a → ¬ a = 726 → ¬ (a = 682 ∧ x = 0) → s0 a x = σ a x := by
    intro a x y1 y2 y3
    rw [hs0]
    have : upS (upS s 726 ((0 : Int).toNat) (D : Nat)) 682 0 0 a x = upS s 726 ((0 : Int).toNat) (D : Nat) a x := by unfold upS; rw [if_neg y3]
    rw [this, up_a y2]
    exact sf a x (by omega) (by omega) (by omega) (by omega)
  have F : FL σ s0 := by
    intro f hf
    obtain ⟨r1, r2, r3⟩ := q1 f hf
    refine ⟨by rw [s0f _ _ (by omega) (by omega) (by omega)]; exact r1, fun h => ?_⟩
    have h1 : σ 652 f = 1 := by omega
    have r4 := r3 h1
    have hr := el_615 (i := (f : Int)) (by omega)
    have hc := cp_615 (i := (f : Int)) (by omega)
    rw [show ((f : Nat) : Int).toNat = f by omega] at hr hc
    have wf := H.1 _ hr.2
    obtain ⟨n, hn'⟩ := Int.eq_ofNat_of_zero_le wf.1
    refine ⟨n, by omega, hn', by rw [s0f _ _ (by decide) (by decide) (by omega)]; have := r4.1; omega, fun i hi => ?_⟩
    rw [s0f _ _ (by decide) (by decide) (by omega)]
    exact (r4.2 i (by have := r4.1; omega)).symm
  have h53 : s0 682 53 = (D : Nat) := by rw [s0f _ _ (by decide) (by decide) (by decide)]; exact hD
  obtain ⟨t1, e1, e2⟩ := l374a (D := D) (t := t) (u := u) (d5 := none) F h53 (by omega) (by omega) (by omega) 6 0 s0 (by omega) (fun _ _ _ _ _ _ => rfl) (fun n hn => absurd hn (Nat.not_lt_zero n))
  obtain ⟨t2, f1, f2⟩ := l374c (D := D) (t := t) (u := u) (sm := sm) F h53 (by omega) (by omega) (by omega) hsm 6 t1 _ (by omega) INV_0 e2
  have I2 := INV_pO (sm := sm) 6 _ (INV_0 (hA := hv σ t) (hB := hv σ u))
  obtain ⟨S, hS⟩ : ∃ S : TS, S = sN (hv σ t) (hv σ u) (fun n e => lkF σ (6 * t + n) (6 * u + e)) 6 (pO (hv σ t) (hv σ u) sm 6 (ts0 (hv σ t) (hv σ u))) := ⟨_, rfl⟩
  have IS : INV (hv σ t) (hv σ u) S := by rw [hS]; exact INV_sN 6 _ I2
  obtain ⟨t3, k1, k2⟩ : ∃ σ', (∀ d4 d5, C374_245 t u 1 d4 d5 t2 (rI (D : Nat) (upS σ' 682 53 ((D : Int) + 1)))) ∧ MT (hv σ t) (hv σ u) s0 σ' D S := by
    rw [hS]
    exact l374d F h53 (by omega) (by omega) (by omega) 6 t2 _ frc_6 I2 f2
  rw [← hS] at c2
  have hB : Dd 374 [vA 682, vI t, vI u] (upS s 726 ((0 : Int).toNat) (D : Nat)) (rI (D : Nat) (upS t3 682 53 ((D : Int) + 1))) := by
    refine m0 (by rw [up_a (by decide), sf _ _ (by decide) (by decide) (by decide) (by decide)]; exact hD) ?_
    rw [if_neg (by omega)]
    refine b374_35 ⟨_, _, d245, ?_⟩
    rw [if_pos rfl, if_neg (show ¬ (1 : Int) = 0 by decide), ← hs0]
    exact e1 (fun d4 => f1 k1 d4 none) none
  have t3c : ∀ a x, a < 682 → t3 a x = s a x := fun a x y => by rw [k2.1 a x (by omega) (by omega) (by omega) (by omega), hs0, up_a (by omega), up_a (by omega)]
  have t3m : ∀ a x, 682 ≤ a → ¬ a = 726 → ¬ (a = 682 ∧ (x = 0 ∨ x = 12 ∨ x = 13)) → ¬ (691 ≤ a ∧ a ≤ 694) → ¬ a = 721 → ¬ (a = 720 ∧ 6 * D ≤ x ∧ x < 6 * D + 6) → t3 a x = σ a x := fun a x y1 y2 y3 y4 y5 y6 => by
    rw [k2.1 a x y4 y5 y6 (by omega)]
    exact s0f a x (by omega) y2 (by omega)
  have s2c : ∀ a x, a < 682 → upS t3 682 53 ((D : Int) + 1) a x = s a x := fun a x y => by rw [up_a (by omega)]; exact t3c a x y
  have s2m : ∀ a x, 682 ≤ a → ¬ a = 726 → ¬ (a = 682 ∧ (x = 0 ∨ x = 12 ∨ x = 13 ∨ x = 53)) → ¬ (691 ≤ a ∧ a ≤ 694) → ¬ a = 721 → ¬ (a = 720 ∧ 6 * D ≤ x ∧ x < 6 * D + 6) → upS t3 682 53 ((D : Int) + 1) a x = σ a x := fun a x y1 y2 y3 y4 y5 y6 => by
    have : upS t3 682 53 ((D : Int) + 1) a x = t3 a x := by unfold upS; rw [if_neg (by omega)]
    rw [this]
    exact t3m a x y1 y2 (by omega) y4 y5 y6
  have z53 : upS t3 682 53 ((D : Int) + 1) 682 53 = (D : Int) + 1 := up_s
  have z720 : ∀ n, n < 6 → upS t3 682 53 ((D : Int) + 1) 720 (6 * D + n) = S.1 n := fun n hn => by rw [up_a (by decide)]; exact (k2.2 n hn).1
  have z0 : upS t3 682 53 ((D : Int) + 1) 682 0 = 0 := by rw [up_k (by omega), k2.1 _ _ (by omega) (by omega) (by omega) (by omega), hs0, up_s]
  have zv : upS t3 682 53 ((D : Int) + 1) 726 0 = (D : Nat) := by rw [up_a (by omega), k2.1 _ _ (by omega) (by omega) (by omega) (by omega), hs0, up_a (by omega)]; exact up_s
  have zt : ∀ a x, 727 ≤ a → upS t3 682 53 ((D : Int) + 1) a x = σ a x := fun a x ha => s2m a x (by omega) (by omega) (by omega) (by omega) (by omega) (by omega)
  generalize upS t3 682 53 ((D : Int) + 1) = s2 at hB s2c s2m z53 z720 z0 zv zt
  have W2 : WF s2 := by
    refine WF_row (r := 653) (σ := s1) (fun a ha hne => ?_) ?_ c2.1
    · rw [s2c a 1 (row_lt ha)]
      exact c6 a 1 hne (row_nx r653.1 ha)
    · rw [s2c _ _ (by decide), c3, r653.2.1]; omega
  have v654 : ∀ i, i < 6 * D → s2 654 i = σ 654 i := fun i hi => by rw [s2c _ _ (by omega), c4 i hi]; exact c2.2.1 _ _ (by omega) (by omega) (by omega) (by omega) (by omega) (by omega)
  have v654' : ∀ n, n < 6 → s2 654 (6 * D + n) = S.1 n := fun n hn => by rw [s2c _ _ (by decide), c5 n hn]; exact (c2.2.2.2 n hn).1
  have v653 : s2 653 1 = 6 * (D : Int) + 6 := by rw [s2c _ _ (by decide)]; exact c3
  have fo : ∀ a x, (616 ≤ a ∧ a ≤ 652) ∨ (717 ≤ a ∧ a ≤ 719) → s2 a x = σ a x := fun a x h => by
    by_cases y : a < 682
    · rw [s2c a x y]; exact sf a x (by omega) (by omega) (by omega) (by omega)
    · exact s2m a x (by omega) (by omega) (by omega) (by omega) (by omega) (by omega)
  refine op_fin hA hB z0 (fun _ => zv) (fun a x ha => by rw [up_a (by omega)]; exact sf a x (by omega) (by omega) (by omega) (by omega)) zt (Rel_F2 H W2 ⟨fun f hf => ?_, by omega, by omega, ⟨by omega, fun i hi => ?_⟩, fun i hi => ?_⟩ (fun a x y1 y2 y3 y4 => ?_))
  · obtain ⟨r1, r2, r3⟩ := q1 f hf
    rw [fo 717 f (by omega), fo 652 f (by omega)]
    exact ⟨r1, r2, fun hh => rowEq_fr (fo _ _ (by omega)) (fun i => fo _ _ (by omega)) (fun i => fo _ _ (by omega)) (fo _ _ (by omega)) (r3 hh)⟩
  · rw [z53] at hi
    show s2 654 i = _
    rw [Nat.zero_add]
    by_cases e : i < 6 * D
    · rw [v654 i e, s2m 720 i (by decide) (by decide) (by omega) (by decide) (by decide) (by omega)]
      have := q4.2 i (by omega)
      rw [Nat.zero_add] at this
      exact this
    · have h1 := v654' (i - 6 * D) (by omega)
      have h2 := z720 (i - 6 * D) (by omega)
      rw [show 6 * D + (i - 6 * D) = i by omega] at h1 h2
      rw [h1, h2]
  · rw [v653] at hi
    by_cases e : i < 6 * D
    · rw [v654 i e]; exact q5 i (by omega)
    · have h1 := v654' (i - 6 * D) (by omega)
      rw [show 6 * D + (i - 6 * D) = i by omega] at h1
      rw [h1]
      exact (IS (i - 6 * D) (by omega)).2
  · by_cases y : a < 682
    · rw [s2c a x y]; exact sf a x (by omega) (by omega) (by omega) (by omega)
    · exact s2m a x (by omega) (by omega) (by omega) (by omega) (by omega) (by omega)
end
