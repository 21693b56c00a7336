/-! putOn. -/
noncomputable section
theorem mdF_ln {T N : Nat → Int} {F : Nat → Int} {nb na n fz : Nat} (hT : ∀ i, i < n → isLn (T i) = true) (hN : ∀ i, i < na → isLn (N i) = true) : ∀ (r : List St) (zs : List (Int × Nat)) (a i j e : Nat), DS F nb na r i j e → okZ n fz r zs a → ∀ v, v ∈ mdF T N n r zs a → isLn v = true := by
  have seg : ∀ (G : Nat → Int) (m x d : Nat), (∀ i, i < m → isLn (G i) = true) → x + d ≤ m → ∀ v, v ∈ rlZ G x d → isLn v = true := fun G m x d hG hd v hv => by
    obtain ⟨k, hk⟩ := List.mem_iff_getElem?.mp hv
    have hlt := (List.getElem?_eq_some_iff.mp hk).1
    rw [rl_len] at hlt
    rw [rl_get d x k hlt] at hk
    cases hk
    exact hG _ (by omega)
  intro r
  induction r with
  | nil =>
    intro zs a i j e D Z v hv
    exact seg T n a (n - a) hT (by have := Z.2; omega) v hv
  | cons q r ih =>
    intro zs a i j e D Z v hv
    cases zs with
    | nil => exact absurd Z id
    | cons z zs =>
      obtain ⟨d1, d2, d3, d4, d5, d6⟩ := D
      have hb := DS_b r _ _ _ d6
      obtain ⟨z0, Z⟩ := Z
      have em : mdF T N n (q :: r) (z :: zs) a = if z.1 = -1 then mdF T N n r zs a else rlZ T a (z.1.toNat - a) ++ (rlZ N q.2.2.1 q.2.2.2 ++ mdF T N n r zs (z.1.toNat + q.2.1)) := rfl
      rw [em] at hv
      rcases Z with ⟨z1, z2⟩ | ⟨z1, z2, z3, z4, z5⟩
      · rw [if_pos z1] at hv
        exact ih zs a _ _ _ d6 z2 v hv
      · rw [if_neg z1] at hv
        rcases List.mem_append.mp hv with h | h
        · exact seg T n a _ hT (by omega) v h
        · rcases List.mem_append.mp h with h | h
          · exact seg N na _ _ hN (by omega) v h
          · exact ih zs _ _ _ _ d6 z5 v h
/-- one text is another one, and what was put last -/
theorem Rel_TU {σ σ' : Sg} {c0 c1 : Int} (hc : c0 ≤ c1) (hw : WF σ') (hT : RT σ') (hU : RU σ') (h : ∀ c k, KP c k → ¬ (2 ≤ c ∧ c ≤ 9) → ¬ c = 683 → ¬ c = 684 → ¬ c = 393 → ¬ c = 394 → ¬ c = 706 → ¬ c = 707 → ¬ (c = 682 ∧ k = 33) → σ' c k = σ c k) (H : Rel c0 σ) : Rel c1 σ' := by
  obtain ⟨h1, h2, h3, h4, h5, h6, h7, h8, h9⟩ := H
  exact ⟨hw, Zl_fr (fun k => h _ _ (kp_12 rfl) (by omega) (by omega) (by omega) (by omega) (by omega) (by omega) (by omega) (by omega)) h2, hT, RB_fr (fun c k hc => h _ _ (kq_B hc) (by omega) (by omega) (by omega) (by omega) (by omega) (by omega) (by omega) (by omega)) h4, RP_fr (fun c k hc => h _ _ (kq_P hc) (by omega) (by omega) (by omega) (by omega) (by omega) (by omega) (by omega) (by omega)) h5, RSt_fr hc (fun c k hc => h _ _ (kq_S hc) (by omega) (by omega) (by omega) (by omega) (by omega) (by omega) (by omega) (by omega)) h6, hU, RF_fr (fun c k hc => h _ _ (kq_F hc) (by omega) (by omega) (by omega) (by omega) (by omega) (by omega) (by omega) (by omega)) h8, RD_fr (fun c k hc => h _ _ (kq_D hc) (by omega) (by omega) (by omega) (by omega) (by omega) (by omega) (by omega) (by omega)) h9⟩
/-- one text is another one, on both sides -/
theorem RT_1 {σ σ' : Sg} {t : Nat} {M : List Int} (ht : t < 4) (H : RT σ) (w : ∀ x, x < 4 → σ (2 + 2 * x) 1 ≤ 16) (h1 : Rw σ' (2 + 2 * t) M) (h2 : σ' 684 t = (M.length : Nat)) (h3 : ∀ i v, M[i]? = some v → σ' 683 (16 * t + i) = v) (ln : ∀ v, v ∈ M → isLn v = true) (f1 : ∀ c k, 2 ≤ c ∧ c ≤ 9 → ¬ c = 2 + 2 * t → ¬ c = 2 + 2 * t + 1 → σ' c k = σ c k) (f2 : ∀ x, ¬ x = t → σ' 684 x = σ 684 x) (f3 : ∀ x, ¬ (16 * t ≤ x ∧ x < 16 * t + 16) → σ' 683 x = σ 683 x) : RT σ' := by
  intro x hx
  by_cases e : x = t
  · subst e
    have gt : ∀ i : Nat, (i : Int) < (M.length : Nat) → ∃ v, M[i]? = some v ∧ v ∈ M := fun i hi => ⟨M[i]'(by omega), List.getElem?_eq_getElem (by omega), List.getElem_mem _⟩
    refine ⟨⟨by rw [h1.1, h2], fun i hi => ?_⟩, fun i hi => ?_⟩
    · rw [h2] at hi
      obtain ⟨v, hv, -⟩ := gt i hi
      rw [h1.2 i v hv, h3 i v hv]
    · rw [h1.1] at hi
      obtain ⟨v, hv, hm⟩ := gt i hi
      rw [h1.2 i v hv]
      exact ln v hm
  · obtain ⟨g1, g2⟩ := H x hx
    have wx := w x hx
    have e1 : ∀ k, σ' (2 + 2 * x) k = σ (2 + 2 * x) k := fun k => f1 _ k (by omega) (by omega) (by omega)
    have e2 : ∀ k, σ' (2 + 2 * x + 1) k = σ (2 + 2 * x + 1) k := fun k => f1 _ k (by omega) (by omega) (by omega)
    refine ⟨rowEq_fr2 (e1 1) e2 (fun i hi => f3 _ ?_) (f2 x e) g1, fun i hi => ?_⟩
    · rw [← g1.1] at hi
      omega
    · rw [e1] at hi
      rw [e2]
      exact g2 i hi
/-- laysMade -/
theorem l325m {t : Nat} {M : List Int} (ht : t < 4) (hM : M.length ≤ 16) : ∀ (d k : Nat) (σ : Sg), k + d = M.length → MD σ M → ∃ s', C325_12 t k σ (rV s') ∧ (∀ i v, k ≤ i → M[i]? = some v → s' 683 (16 * t + i) = v) ∧ ∀ c x, ¬ (c = 683 ∧ 16 * t + k ≤ x ∧ x < 16 * t + 16) → s' c x = σ c x := by
  intro d
  induction d with
  | zero =>
    intro k σ hk M1
    refine ⟨σ, b325_12 ?_, fun i v hi e => ?_, fun _ _ _ => rfl⟩
    · rw [M1.1, if_neg (by omega)]
    · have := (List.getElem?_eq_some_iff.mp e).1
      omega
  | succ d ih =>
    intro k σ hk M1
    obtain ⟨v, hv⟩ : ∃ v, M[k]? = some v := ⟨_, List.getElem?_eq_getElem (by omega)⟩
    have fr : ∀ c x, ¬ (c = 683 ∧ x = 16 * t + k) → upS σ 683 (16 * t + k) v c x = σ c x := fun c x hc => by
      unfold upS
      rw [if_neg hc]
    obtain ⟨s', a1, a2, a3⟩ := ih (k + 1) (upS σ 683 (16 * t + k) v) (by omega) (MD_fr (fr _ _ (by omega)) (fun i => fr _ _ (by omega)) M1)
    refine ⟨s', b325_12 ?_, fun i w hi e => ?_, fun c x hc => by rw [a3 c x (by omega)]; exact fr c x (by omega)⟩
    · rw [M1.1, if_pos (by omega), tn, show (16 * (t : Int) + (k : Int)).toNat = 16 * t + k by omega, M1.2 k v hv, show (k : Int) + 1 = ((k + 1 : Nat) : Int) by omega]
      exact ⟨by omega, by omega, by omega, by omega, by omega, a1⟩
    · by_cases y : i = k
      · subst y
        rw [hv] at e
        cases e
        rw [a3 _ _ (by omega), up_s]
      · exact a2 i w (by omega) e
theorem d325m {t : Nat} {M : List Int} {σ : Sg} (ht : t < 4) (hM : M.length ≤ 16) (M1 : MD σ M) : ∃ s', Dd 325 [vA 682, vI t] σ (rV s') ∧ s' 684 t = (M.length : Nat) ∧ (∀ i v, M[i]? = some v → s' 683 (16 * t + i) = v) ∧ ∀ c x, ¬ (c = 683 ∧ 16 * t ≤ x ∧ x < 16 * t + 16) → ¬ (c = 684 ∧ x = t) → s' c x = σ c x := by
  have fr : ∀ c x, ¬ (c = 684 ∧ x = t) → upS σ 684 t (σ 682 32) c x = σ c x := fun c x hc => by
    unfold upS
    rw [if_neg hc]
  obtain ⟨s', a1, a2, a3⟩ := l325m ht hM M.length 0 (upS σ 684 t (σ 682 32)) (by omega) (MD_fr (fr _ _ (by omega)) (fun i => fr _ _ (by omega)) M1)
  refine ⟨s', b325 ⟨by omega, by rw [tn]; exact a1⟩, by rw [a3 _ _ (by omega), up_s]; exact M1.1, fun i v e => a2 i v (by omega) e, fun c x y1 y2 => by rw [a3 c x (by omega)]; exact fr c x y2⟩
/-- what is remembered of it -/
theorem l326 {m : Nat} {x6 : Int} (hm : m ≤ 32) : ∀ (d k : Nat) (σ : Sg), k + d = m → σ 682 33 = (m : Nat) → ∃ s', (∀ d1 d2 d3 d4 d5, C326_119 d1 d2 d3 d4 d5 x6 k σ (rI x6 s')) ∧ (∀ x, k ≤ x → x < m → s' 706 x = σ 708 x ∧ s' 707 x = σ 709 x) ∧ ∀ c x, ¬ ((c = 706 ∨ c = 707) ∧ k ≤ x) → s' c x = σ c x := by
  intro d
  induction d with
  | zero =>
    intro k σ hk h33
    refine ⟨σ, fun d1 d2 d3 d4 d5 => b326_119 ?_, fun x h1 h2 => absurd h1 (by omega), fun _ _ _ => rfl⟩
    rw [h33, if_neg (by omega)]
  | succ d ih =>
    intro k σ hk h33
    obtain ⟨s1, hs1⟩ : ∃ s1, s1 = upS (upS σ 706 k (σ 708 k)) 707 k (upS σ 706 k (σ 708 k) 709 k) := ⟨_, rfl⟩
    have fr : ∀ c x, ¬ ((c = 706 ∨ c = 707) ∧ x = k) → s1 c x = σ c x := fun c x hc => by
      rw [hs1]
      unfold upS
      rw [if_neg (by omega), if_neg (by omega)]
    obtain ⟨s', a1, a2, a3⟩ := ih (k + 1) s1 (by omega) (by rw [fr _ _ (by omega)]; exact h33)
    refine ⟨s', fun d1 d2 d3 d4 d5 => b326_119 ?_, fun x h1 h2 => ?_, fun c x hc => by rw [a3 c x (by omega)]; exact fr c x (by omega)⟩
    · rw [h33, if_pos (by omega), tn, ← hs1, show (k : Int) + 1 = ((k + 1 : Nat) : Int) by omega]
      exact ⟨by omega, by omega, by omega, by omega, by omega, a1 _ _ _ _ _⟩
    · by_cases y : x = k
      · subst y
        rw [a3 _ _ (by omega), a3 _ _ (by omega), hs1, up_a (by decide), up_s, up_s, up_a (by decide)]
        exact ⟨rfl, rfl⟩
      · obtain ⟨b1, b2⟩ := a2 x (by omega) h2
        rw [b1, b2, fr _ _ (by omega), fr _ _ (by omega)]
        exact ⟨rfl, rfl⟩
/-- putOn -/
theorem o23 {σ : Sg} {c a1 a2 a3 : Int} (H : Rel c σ) : OpR 412 326 [vA 0, vI a1, vI a2, vI a3, vA 726] [vA 682, vI a1, vI a2, vI a3] σ (c + 1) := by
  by_cases g1 : a1 < 0
  · exact x23_0 H g1
  by_cases g2 : σ 0 3 ≤ a1
  · exact x23_1 H g2
  have k1 : 0 ≤ a1 ∧ a1 < σ 0 3 := by omega
  by_cases g3 : a2 < 0
  · exact x23_2 H k1 g3
  by_cases g4 : 4 ≤ a2
  · exact x23_3 H k1 g4
  have k2 : 0 ≤ a2 ∧ a2 < 4 := by omega
  by_cases g5 : a3 < 0
  · exact x23_4 H k1 k2 g5
  by_cases g6 : 3 < a3
  · exact x23_5 H k1 k2 g6
  obtain ⟨a, rfl⟩ := Int.eq_ofNat_of_zero_le k1.1
  obtain ⟨t, rfl⟩ := Int.eq_ofNat_of_zero_le k2.1
  obtain ⟨fz, rfl⟩ := Int.eq_ofNat_of_zero_le (show 0 ≤ a3 by omega)
  have hn := (rel_n H).1
  have ht4 : t < 4 := by omega
  have ha24 : a < 24 := by omega
  obtain ⟨x1, x2⟩ := H.2.2.2.2.1.2.2.2 a k1.2
  obtain ⟨-, -, -, -, -, -, hP, -⟩ := cpP (p := a) ha24
  obtain ⟨nb, na, hb1, hb2, N, S⟩ := po_slot x1 x2 (WF_w H.1 (pat_1 hP)).2.1 (WF_w H.1 (pat_3 hP)).2.1
  have V := N.2.2.2.2.1
  have rt := rel_t H (t := (t : Int)) k2
  rw [tn] at rt
  obtain ⟨rt1, rt2, rt3⟩ := rt
  obtain ⟨n, hnn⟩ := Int.eq_ofNat_of_zero_le rt2
  have hrow := el_1 (i := (t : Int)) k2
  rw [tn] at hrow
  have hct := cp_1 (i := (t : Int)) k2
  rw [tn] at hct
  have hct : cap (2 + 2 * t) = 16 := by omega
  have hTx := H.2.2.1 t ht4
  have hT : ∀ i, i < n → σ 683 (16 * t + i) = σ (2 + 2 * t + 1) i := fun i hi => (hTx.1.2 i (by omega)).symm
  obtain ⟨Z, hZ⟩ : ∃ Z, Z = puF (σ (20 + 13 * a + 2)) (σ (2 + 2 * t + 1)) nb n fz (hks (σ (20 + 13 * a + 6)) nb na) (hks (σ (20 + 13 * a + 6)) nb na) 0 0 0 := ⟨_, rfl⟩
  obtain ⟨M, hM⟩ : ∃ M, M = mdF (σ (2 + 2 * t + 1)) (σ (20 + 13 * a + 4)) n (hks (σ (20 + 13 * a + 6)) nb na) Z 0 := ⟨_, rfl⟩
  have D := DS_0 V
  have okz : okZ n fz (hks (σ (20 + 13 * a + 6)) nb na) Z 0 := by rw [hZ]; exact puF_ok _ 0 0 0 (Nat.zero_le _)
  obtain ⟨okp, okl⟩ := okZ_p _ Z 0 okz
  have hl := hks_len V
  have lnM : ∀ v, v ∈ M → isLn v = true := by
    rw [hM]
    exact mdF_ln (fun i hi => hTx.2 i (by rw [hnn]; omega)) (fun i hi => x2.2.2.2.2.2.2.2.2.1 i (by rw [N.2.1]; omega)) _ Z 0 0 0 0 D okz
  obtain ⟨cl1, cl2⟩ := d136 (P := 20 + 13 * a) (t := 2 + 2 * t) (n := n) (fz := fz) hP (by omega) hrow.2 (by omega) hct D ⟨by omega, by omega, by omega⟩ (by omega) (by omega) H.1 (PC_of N (by omega) (by omega)) ⟨WF_w H.1 (pat_1 hP), N.1, fun _ _ => rfl⟩ ⟨WF_w H.1 (pat_3 hP), N.2.1, fun _ _ => rfl⟩ ⟨WF_w H.1 hrow.2, hnn, fun _ _ => rfl⟩ hZ hM
  have e230 : Dd 230 [vA 0, vI a] σ (rA (20 + 13 * a) σ) := by
    have z := d230_ok (σ := σ) (k := (a : Int)) k1 (by omega)
    rw [tn] at z
    exact z
  have e227 : Dd 227 [vA 0, vI t] σ (rA (2 + 2 * t) σ) := by
    have z := d227_ok (σ := σ) (t := (t : Int)) k2
    rw [tn] at z
    exact z
  have e234 : Dd 234 [vA 0, vI fz, vI 0, vI 3] σ (rV σ) := d234_ok ⟨by omega, by omega⟩
  -- the reference, up to what is thrown
  have ref : ∀ s : Sg, (∀ c x, 682 ≤ c → ¬ c = 726 → s c x = σ c x) → ∃ s1, (∀ {o : Rs}, (∀ d1 d3 d4 d5 d7, C326_93 d1 t d3 d4 d5 (rjF Z 0 0) d7 (if 16 < M.length then 3 else 0) s1 o) → Dd 326 [vA 682, vI a, vI t, vI fz] s o) ∧ MD s1 M ∧ s1 704 0 = (Z.length : Nat) ∧ (∀ x z, Z[x]? = some z → s1 708 x = z.1 ∧ (¬ z.1 = -1 → s1 709 x = (z.2 : Nat))) ∧ ∀ c x, ¬ (700 ≤ c ∧ c ≤ 705) → ¬ (c = 682 ∧ x = 32) → ¬ (c = 708 ∨ c = 709) → s1 c x = s c x := by
    intro s hs
    obtain ⟨s1, b1, b2, b3, b4, b5⟩ := d324 (σ := s) (s := a) (t := t) (n := n) (fz := fz) (by omega) ht4 V ⟨by omega, by omega, by omega⟩ (by omega) (Slot_fr (fun c k h => hs c k (by omega) (by omega)) S) (by rw [hs _ _ (by omega) (by omega), ← rt1, hnn]) (fun i hi => by rw [hs _ _ (by omega) (by omega)]; exact hT i hi) hZ hM
    refine ⟨s1, fun {o} hh => b326 ⟨1, _, d248_ok ⟨by omega, by rw [hs _ _ (by omega) (by omega)]; omega⟩, ?_⟩, b2, b3, b4, b5⟩
    rw [if_neg (show ¬ (1 : Int) = 0 by decide)]
    refine ⟨1, _, d247_ok k2, ?_⟩
    rw [if_neg (show ¬ (1 : Int) = 0 by decide)]
    refine b326_20 ?_
    rw [if_neg (show ¬ (1 : Int) = 0 by decide)]
    refine ⟨_, _, d246, ?_⟩
    rw [if_pos (show (0 : Int) ≤ (fz : Int) ∧ (fz : Int) < 4 by omega), if_neg (show ¬ (1 : Int) = 0 by decide)]
    refine b326_40 ?_
    rw [if_neg (show ¬ (1 : Int) = 0 by decide)]
    refine ⟨_, _, b1, b326_58 ?_⟩
    rw [if_neg (show ¬ (1 : Int) = 0 by decide), if_neg (show ¬ (1 : Int) = 0 by decide), b2.1]
    have z := hh (some (vI a)) (some (vI fz)) (some (vI 1)) (some (vI 1)) none
    by_cases y : 16 < M.length
    · rw [if_pos y] at z
      rw [if_pos (show (16 : Int) < ((M.length : Nat) : Int) by omega)]
      exact z
    · rw [if_neg y] at z
      rw [if_neg (show ¬ (16 : Int) < ((M.length : Nat) : Int) by omega)]
      exact z
  by_cases g7 : 16 < M.length
  · -- too long
    obtain ⟨s, c1, c2, c3⟩ := cl1 g7
    have hA := b412 (x1 := (a : Int)) (x2 := (t : Int)) (x3 := (fz : Int)) (Or.inr (Or.inr (Or.inr ⟨s, b195 (Or.inl ⟨_, _, e230, hP, Or.inl ⟨_, _, e227, hrow.2, Or.inl ⟨_, e234, 0, s, c1, by rw [if_pos rfl]⟩⟩⟩), rfl⟩)))
    obtain ⟨s1, r1, r2, r3, r4, r5⟩ := ref s (fun c x h _ => c3 c x (by omega))
    refine op_full2 H (kx := 3) (σ1 := s) (by decide) c2 (fun x k h h' => by unfold KP at h'; exact c3 x k (by omega)) (fun x k h => c3 x k (by omega)) hA ⟨upS s1 682 0 3, 0, r1 (fun d1 d3 d4 d5 d7 => b326_93 ?_), up_s, fun x k h => ?_, fun x k h h' h2 h3 => ?_⟩
    · rw [if_pos g7]
      refine ⟨_, _, d245, ?_⟩
      rw [if_neg (show ¬ (3 : Int) = 0 by decide), if_pos rfl]
    · rw [up_a (by omega)]
      exact r5 x k (by omega) (by omega) (by omega)
    · unfold KP at h'
      have : upS s1 682 0 3 x k = s1 x k := by unfold upS; rw [if_neg (by omega)]
      rw [this, r5 x k (by omega) (by omega) (by omega)]
      exact c3 x k (by omega)
  · obtain ⟨s, c1, c2, c4, c5, c6, c3⟩ := cl2 (by omega)
    have hA := b412 (x1 := (a : Int)) (x2 := (t : Int)) (x3 := (fz : Int)) (Or.inl ⟨rjF Z 0 0, s, b195 (Or.inl ⟨_, _, e230, hP, Or.inl ⟨_, _, e227, hrow.2, Or.inl ⟨_, e234, 1, s, c1, by rw [if_neg (show ¬ (1 : Int) = 0 by decide)]; exact ⟨_, _, c6, rfl⟩⟩⟩⟩), rfl⟩)
    obtain ⟨v, hv⟩ : ∃ v, v = rjF Z 0 0 := ⟨_, rfl⟩
    rw [← hv] at hA
    have lo : ∀ c x, 682 ≤ c → ¬ c = 726 → upS s 726 0 v c x = σ c x := fun c x h h' => by rw [up_a h']; exact c3 c x (by omega) (by omega) (by omega)
    obtain ⟨s1, r1, r2, r3, r4, r5⟩ := ref (upS s 726 0 v) lo
    -- laid into the text
    have f0 : ∀ c x, ¬ (c = 682 ∧ x = 0) → upS s1 682 0 0 c x = s1 c x := fun c x hc => by
      unfold upS
      rw [if_neg hc]
    obtain ⟨s4, p1, p2, p3, p4⟩ := d325m (σ := upS s1 682 0 0) ht4 (by omega) (MD_fr (f0 _ _ (by omega)) (fun i => f0 _ _ (by omega)) r2)
    have f5 : ∀ c x, ¬ (c = 682 ∧ x = 33) → upS s4 682 33 (s4 704 0) c x = s4 c x := fun c x hc => by
      unfold upS
      rw [if_neg hc]
    have e704 : s4 704 0 = (Z.length : Nat) := by rw [p4 _ _ (by omega) (by omega), f0 _ _ (by omega)]; exact r3
    obtain ⟨s5, u1, u2, u3⟩ := l326 (m := Z.length) (x6 := v) (by omega) Z.length 0 (upS s4 682 33 (s4 704 0)) (by omega) (by rw [up_s, e704])
    have fin : ∀ c x, ¬ (700 ≤ c ∧ c ≤ 709) → ¬ (c = 682 ∧ (x = 0 ∨ x = 32 ∨ x = 33)) → ¬ c = 683 → ¬ c = 684 → s5 c x = upS s 726 0 v c x := fun c x y1 y2 y3 y4 => by
      rw [u3 c x (by omega), f5 c x (by omega), p4 c x (by omega) (by omega), f0 c x (by omega)]
      exact r5 c x (by omega) (by omega) (by omega)
    have lowf : ∀ c x, c < 682 → s5 c x = s c x := fun c x h => by rw [fin c x (by omega) (by omega) (by omega) (by omega), up_a (by omega)]
    have hB : Dd 326 [vA 682, vI a, vI t, vI fz] (upS s 726 0 v) (rI v s5) := r1 (fun d1 d3 d4 d5 d7 => b326_93 (by
      rw [if_neg g7, ← hv]
      refine ⟨_, _, d245, ?_⟩
      rw [if_pos rfl, if_neg (show ¬ (1 : Int) = 0 by decide)]
      exact ⟨s4, p1, u1 _ _ _ _ _⟩))
    have e33 : s5 682 33 = (Z.length : Nat) := by rw [u3 _ _ (by omega), up_s, e704]
    have e393 : s5 393 1 = (Z.length : Nat) := by rw [lowf _ _ (by omega), c4.1, List.length_map]
    have tx : ∀ x, x < 4 → σ (2 + 2 * x) 1 ≤ 16 := fun x hx => by
      have z := (rel_t H (t := (x : Int)) (by omega)).2.2
      rw [tn] at z
      exact z
    have i5 : ∀ c x, c = 683 ∨ c = 684 → s5 c x = s4 c x := fun c x h => by rw [u3 c x (by omega), f5 c x (by omega)]
    have i4 : ∀ c x, c = 683 ∨ c = 684 → upS s1 682 0 0 c x = σ c x := fun c x h => by rw [f0 c x (by omega), r5 c x (by omega) (by omega) (by omega)]; exact lo c x (by omega) (by omega)
    have hRT : RT s5 := RT_1 ht4 H.2.2.1 tx (Rw_fr (lowf _ _ (by omega)) (fun i => lowf _ _ (by omega)) c5) (by rw [i5 _ _ (Or.inr rfl)]; exact p2) (fun i w e => by rw [i5 _ _ (Or.inl rfl)]; exact p3 i w e) lnM (fun c k y1 y2 y3 => by rw [lowf c k (by omega)]; exact c3 c k (by omega) y2 y3) (fun x hx => by rw [i5 _ _ (Or.inr rfl), p4 _ _ (by omega) (by omega)]; exact i4 _ _ (Or.inr rfl)) (fun x hx => by rw [i5 _ _ (Or.inl rfl), p4 _ _ (by omega) (by omega)]; exact i4 _ _ (Or.inl rfl))
    have hRU : RU s5 := by
      refine ⟨by rw [e33, e393], fun h hh => ?_⟩
      rw [e393] at hh
      obtain ⟨z, hz⟩ : ∃ z, Z[h]? = some z := ⟨_, List.getElem?_eq_getElem (by omega)⟩
      obtain ⟨w1, w2⟩ := u2 h (Nat.zero_le _) (by omega)
      obtain ⟨w3, w4⟩ := r4 h z hz
      have o8 : ∀ c x, c = 708 ∨ c = 709 → upS s4 682 33 (s4 704 0) c x = s1 c x := fun c x hc => by rw [f5 c x (by omega), p4 c x (by omega) (by omega), f0 c x (by omega)]
      have e394 : s5 394 h = anI z := by
        rw [lowf _ _ (by omega)]
        exact c4.2 h _ (by rw [List.getElem?_map, hz]; rfl)
      rw [w1, w2, o8 _ _ (Or.inl rfl), o8 _ _ (Or.inr rfl), e394, w3]
      unfold anI
      rcases okp z (List.mem_of_getElem? hz) with e | ⟨e1, e2, e3⟩
      · rw [if_pos e]
        exact Or.inl ⟨e, rfl⟩
      · by_cases e4 : z.1 = -1
        · rw [if_pos e4]
          exact Or.inl ⟨e4, rfl⟩
        · rw [if_neg e4, w4 e4]
          exact Or.inr ⟨by omega, by omega, by omega, by omega, rfl⟩
    refine op_fin hA hB ?_ (fun _ => ?_) (fun x k h => by rw [up_a (by omega)]; exact c3 x k (by omega) (by omega) (by omega)) (fun x k h => by rw [fin x k (by omega) (by omega) (by omega) (by omega), up_a (by omega)]; exact c3 x k (by omega) (by omega) (by omega)) (Rel_TU (by omega) (WF_fr lowf c2) hRT hRU (fun x k h y1 y2 y3 y4 y5 y6 y7 y8 => ?_) H)
    · rw [u3 _ _ (by omega), f5 _ _ (by omega), p4 _ _ (by omega) (by omega)]
      exact up_s
    · rw [fin _ _ (by omega) (by omega) (by omega) (by omega)]
      exact up_s
    · unfold KP at h
      rw [fin x k (by omega) (by omega) (by omega) (by omega)]
      by_cases y : x < 682
      · rw [up_a (by omega)]
        exact c3 x k (by omega) (by omega) (by omega)
      · exact lo x k (by omega) (by omega)
end
