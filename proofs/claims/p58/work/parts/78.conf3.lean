/-! resolve. -/
noncomputable section
theorem st154 {a n : Nat} {σ0 σ : Sg} {la : List Int} (w : wR σ0 a) (ha : a ≤ 18) (hn : σ0 a 1 = (n : Nat)) (hA : Rw σ 400 la) (hB : Rw σ a (rl σ0 a)) {x y : Nat} (hy : y ≤ n) (hl : la.length + (y - x) ≤ 16) : ∃ s, Dd 154 [vA 400, vA a, vI x, vI y] σ (rV s) ∧ Rw s 400 (la ++ sg (fun i => σ0 (a + 1) i) x y) ∧ Rw s a (rl σ0 a) ∧ ∀ c k, ¬ c = 400 → ¬ c = 401 → s c k = σ c k := by
  have h4 : isRow 400 = true := by decide +kernel
  have hc4 : 16 ≤ cap 400 := by decide +kernel
  have hL : (rl σ0 a).length = n := by
    unfold rl
    rw [List.length_map, List.length_range]
    omega
  have w2 := w.2.2
  have e := rl_sg hn (x := x) hy
  obtain ⟨s, g1, g2, g3⟩ := d154 (x := (x : Int)) (y := (y : Int)) h4 w.1 hA hB (by omega) (by omega) (by
    rw [show ((y : Int)).toNat = y by omega, show ((x : Int)).toNat = x by omega, e, sg_len]
    omega)
  rw [show ((y : Int)).toNat = y by omega, show ((x : Int)).toNat = x by omega, e] at g2
  exact ⟨s, g1, g2, Rw_fr (g3 _ _ (by omega) (by omega)) (fun i => g3 _ _ (by omega) (by omega)) hB, g3⟩
theorem p85 {a n x : Nat} {σ : Sg} {x3 : Int} (w : wR σ a) (ha : a ≤ 18) (hn : σ a 1 = (n : Nat)) (h16 : n ≤ 16) (hcap : cap a = 16) (hx3 : 1 ≤ x3 ∧ x3 ≤ 3) {p q r : Nat} (hp : p = plF (fun i => σ (a + 1) i) n n 0 x) (hq : q = nm (fun i => σ (a + 1) i) n p) (hr : r = nm (fun i => σ (a + 1) i) n q) (hx : x < cnF (fun i => σ (a + 1) i) n n 0) (k1 : p < q) (k2 : q < r) (k3 : r < n) : ∃ s, Dd 85 [vA 399, vA a, vI x, vI x3] σ (rV s) ∧ Rw s a (rsL (fun i => σ (a + 1) i) x3 n p q r) ∧ s 400 1 = ((rsL (fun i => σ (a + 1) i) x3 n p q r).length : Nat) ∧ ∀ c k, ¬ c = a → ¬ c = a + 1 → ¬ c = 400 → ¬ c = 401 → s c k = σ c k := by
  have h4 : isRow 400 = true := by decide +kernel
  have hc4 : 16 ≤ cap 400 := by decide +kernel
  have w0 := w.2
  have e86 := l86 (f := fun i => σ (a + 1) i) w hn (fun i _ => rfl) (d1 := some (vI x)) n 0 x (by omega) hx
  rw [← hp] at e86
  have e84 := d84 (f := fun i => σ (a + 1) i) w hn (fun i _ => rfl) (i := p) (by omega)
  rw [← hq] at e84
  have e84b := d84 (f := fun i => σ (a + 1) i) w hn (fun i _ => rfl) (i := q) (by omega)
  rw [← hr] at e84b
  have hB0 : Rw (upS σ 400 1 0) a (rl σ a) := Rw_fr (up_a (by omega)) (fun i => up_a (by omega)) (Rw_rl w.2.1)
  obtain ⟨s1, a1, a2, a3, a4⟩ := st154 w ha hn (Rw_nil (σ := σ) (a := 400)) hB0 (x := 0) (y := p) (by omega) (by simp; omega)
  rw [List.nil_append] at a2
  have l1 : (sg (fun i => σ (a + 1) i) 0 p).length = p := by rw [sg_len]; omega
  -- the first side
  have S2 : ∃ s2, (C85_65 a (some (vI x)) x3 (some (vI p)) q r s2 = C85_65 a (some (vI x)) x3 (some (vI p)) q r s2) ∧ (∀ {o : Rs}, C85_65 a (some (vI x)) x3 (some (vI p)) q r s2 o → (if x3 = 1 then C85_51 a (some (vI x)) x3 p q r s1 o else (if x3 = 3 then C85_51 a (some (vI x)) x3 p q r s1 o else C85_65 a (some (vI x)) x3 (some (vI p)) q r s1 o))) ∧ Rw s2 400 (sg (fun i => σ (a + 1) i) 0 p ++ (if x3 = 1 ∨ x3 = 3 then sg (fun i => σ (a + 1) i) (p + 1) q else [])) ∧ Rw s2 a (rl σ a) ∧ ∀ c k, ¬ c = 400 → ¬ c = 401 → s2 c k = s1 c k := by
    by_cases z : x3 = 1 ∨ x3 = 3
    · obtain ⟨s2, b1, b2, b3, b4⟩ := st154 w ha hn a2 a3 (x := p + 1) (y := q) (by omega) (by omega)
      refine ⟨s2, rfl, fun {o} hh => ?_, by rw [if_pos z]; exact b2, b3, b4⟩
      have g : C85_51 a (some (vI x)) x3 p q r s1 o := by
        rw [show (((p + 1 : Nat)) : Int) = (p : Int) + 1 by omega] at b1
        exact b85_51 ⟨by omega, _, b1, hh⟩
      by_cases z1 : x3 = 1
      · rw [if_pos z1]; exact g
      · rw [if_neg z1, if_pos (by omega)]; exact g
    · refine ⟨s1, rfl, fun {o} hh => ?_, by rw [if_neg z, List.append_nil]; exact a2, a3, fun _ _ _ _ => rfl⟩
      rw [if_neg (by omega), if_neg (by omega)]
      exact hh
  obtain ⟨s2, -, b1, b2, b3, b4⟩ := S2
  have l2 : (sg (fun i => σ (a + 1) i) 0 p ++ (if x3 = 1 ∨ x3 = 3 then sg (fun i => σ (a + 1) i) (p + 1) q else [])).length ≤ q := by
    rw [List.length_append, l1]
    split
    · rw [sg_len]; omega
    · rw [List.length_nil]; omega
  have S3 : ∃ s3, (∀ {o : Rs}, C85_89 a (some (vI x)) (some (vI x3)) (some (vI p)) (some (vI q)) r s3 o → C85_65 a (some (vI x)) x3 (some (vI p)) q r s2 o) ∧ Rw s3 400 ((sg (fun i => σ (a + 1) i) 0 p ++ (if x3 = 1 ∨ x3 = 3 then sg (fun i => σ (a + 1) i) (p + 1) q else [])) ++ (if x3 = 2 ∨ x3 = 3 then sg (fun i => σ (a + 1) i) (q + 1) r else [])) ∧ Rw s3 a (rl σ a) ∧ ∀ c k, ¬ c = 400 → ¬ c = 401 → s3 c k = s2 c k := by
    by_cases z : x3 = 2 ∨ x3 = 3
    · obtain ⟨s3, c1, c2, c3, c4⟩ := st154 w ha hn b2 b3 (x := q + 1) (y := r) (by omega) (by omega)
      refine ⟨s3, fun {o} hh => ?_, by rw [if_pos z]; exact c2, c3, c4⟩
      have g : C85_75 a (some (vI x)) (some (vI x3)) (some (vI p)) q r s2 o := by
        rw [show (((q + 1 : Nat)) : Int) = (q : Int) + 1 by omega] at c1
        exact b85_75 ⟨by omega, _, c1, hh⟩
      refine b85_65 ?_
      by_cases z1 : x3 = 2
      · rw [if_pos z1]; exact g
      · rw [if_neg z1, if_pos (by omega)]; exact g
    · refine ⟨s2, fun {o} hh => b85_65 ?_, by rw [if_neg z, List.append_nil]; exact b2, b3, fun _ _ _ _ => rfl⟩
      rw [if_neg (by omega), if_neg (by omega)]
      exact hh
  obtain ⟨s3, c1, c2, c3, c4⟩ := S3
  have l3 : ((sg (fun i => σ (a + 1) i) 0 p ++ (if x3 = 1 ∨ x3 = 3 then sg (fun i => σ (a + 1) i) (p + 1) q else [])) ++ (if x3 = 2 ∨ x3 = 3 then sg (fun i => σ (a + 1) i) (q + 1) r else [])).length ≤ r := by
    have u1 : (if x3 = 1 ∨ x3 = 3 then sg (fun i => σ (a + 1) i) (p + 1) q else []).length ≤ q - (p + 1) := by
      split
      · rw [sg_len]; exact Nat.le_refl _
      · exact Nat.zero_le _
    have u2 : (if x3 = 2 ∨ x3 = 3 then sg (fun i => σ (a + 1) i) (q + 1) r else []).length ≤ r - (q + 1) := by
      split
      · rw [sg_len]; exact Nat.le_refl _
      · exact Nat.zero_le _
    rw [List.length_append, List.length_append, sg_len]
    omega
  obtain ⟨s4, e1, e2, e3, e4⟩ := st154 w ha hn c2 c3 (x := r + 1) (y := n) (by omega) (by omega)
  have hR : ((sg (fun i => σ (a + 1) i) 0 p ++ (if x3 = 1 ∨ x3 = 3 then sg (fun i => σ (a + 1) i) (p + 1) q else [])) ++ (if x3 = 2 ∨ x3 = 3 then sg (fun i => σ (a + 1) i) (q + 1) r else [])) ++ sg (fun i => σ (a + 1) i) (r + 1) n = rsL (fun i => σ (a + 1) i) x3 n p q r := by
    unfold rsL
    rw [List.append_assoc, List.append_assoc]
  rw [hR] at e2
  have hlen : (rsL (fun i => σ (a + 1) i) x3 n p q r).length ≤ n := by
    rw [← hR, List.length_append, sg_len]
    omega
  have w4 : wR s4 400 := Rw_wR h4 e2 (by omega)
  have hsz : s4 400 1 ≤ (cap a : Int) := by rw [e2.1]; omega
  have f3 : s3 a 1 = (n : Nat) := by rw [c4 _ _ (by omega) (by omega), b4 _ _ (by omega) (by omega), a4 _ _ (by omega) (by omega), up_a (by omega)]; exact hn
  refine ⟨bcS s4 a 400, ?_, ⟨by rw [bc_sz hsz]; exact e2.1, fun i v hv => ?_⟩, ?_, fun c k q1 q2 q3 q4 => ?_⟩
  · refine b85 ⟨_, _, b86 e86, _, _, e84, _, _, e84b, _, d152 h4, _, a1, b1 (c1 (b85_89 w.1 ⟨by omega, ?_⟩))⟩
    have d := d146 (σ := s3) w.1
    rw [f3] at d
    rw [show (((r + 1 : Nat)) : Int) = (r : Int) + 1 by omega] at e1
    exact ⟨_, _, d, _, e1, _, d155 w.1 w4, rfl⟩
  · have hi := (List.getElem?_eq_some_iff.mp hv).1
    rw [bc_val hsz (by omega) (by rw [e2.1]; omega)]
    exact e2.2 i v hv
  · rw [bc_off (by omega) (by omega)]
    exact e2.1
  · rw [bc_off q1 q2, e4 c k q3 q4, c4 c k q3 q4, b4 c k q3 q4, a4 c k q3 q4, up_a q3]
theorem o27 {σ : Sg} {c a1 a2 a3 : Int} (H : Rel c σ) : OpR 416 339 [vA 0, vI a1, vI a2, vI a3, vA 726] [vA 682, vI a1, vI a2, vI a3] σ (c + 1) := by
  by_cases g1 : a1 < 0
  · exact x27_0 H g1
  by_cases g2 : 4 ≤ a1
  · exact x27_1 H g2
  have k1 : 0 ≤ a1 ∧ a1 < 4 := by omega
  obtain ⟨t, rfl⟩ := Int.eq_ofNat_of_zero_le k1.1
  obtain ⟨n, h16, hn, hm, w, hf⟩ := cf_two H (t := t) (by omega)
  have e227 := d227_ok (σ := σ) k1
  have hcap := cp_1 k1
  rw [show ((t : Int)).toNat = t by omega] at e227 hcap
  have dA := d82 (f := fun i => σ (2 + 2 * t + 1) i) w hn (fun i _ => rfl)
  have dM : ∀ s : Sg, (∀ c k, 683 ≤ c ∧ c ≤ 684 → s c k = σ c k) → Dd 337 [vA 682, vI t] s (rI (cnF (fun i => σ (2 + 2 * t + 1) i) n n 0 : Nat) s) := fun s hs => d337 (by omega) (by rw [hs _ _ (by decide)]; exact hm) h16 (fun i hi => by rw [hs _ _ (by decide)]; exact hf i hi)
  by_cases g3 : 0 ≤ a2 ∧ a2 < (cnF (fun i => σ (2 + 2 * t + 1) i) n n 0 : Nat)
  · have e232 := d232_ok (σ := σ) g3
    by_cases g4 : 1 ≤ a3 ∧ a3 ≤ 3
    · have e234 := d234_ok (σ := σ) g4
      obtain ⟨x, rfl⟩ := Int.eq_ofNat_of_zero_le g3.1
      have hx : x < cnF (fun i => σ (2 + 2 * t + 1) i) n n 0 := by omega
      obtain ⟨q1, q2, q3⟩ := plF_ok n 0 x (by omega) hx
      obtain ⟨p, hp⟩ : ∃ p, p = plF (fun i => σ (2 + 2 * t + 1) i) n n 0 x := ⟨_, rfl⟩
      rw [← hp] at q2 q3
      obtain ⟨q, hq⟩ : ∃ q, q = nm (fun i => σ (2 + 2 * t + 1) i) n p := ⟨_, rfl⟩
      obtain ⟨r, hr⟩ : ∃ r, r = nm (fun i => σ (2 + 2 * t + 1) i) n q := ⟨_, rfl⟩
      have z1 : p < q := by rw [hq]; exact nm_ge
      have z2 : q < r := by rw [hr]; exact nm_ge
      have z3 : r < n := by
        have := q3.2.2
        rw [← hq, ← hr] at this
        exact fat_lt (by decide) this
      obtain ⟨s, b1, b2, b3, b4⟩ := p85 (x := x) w (by omega) hn h16 (by omega) g4 hp hq hr hx z1 z2 z3
      have hA := b416 (Or.inl ⟨_, _, b199 (Or.inl ⟨_, _, e227, w.1, _, _, dA, Or.inl ⟨_, e232, Or.inl ⟨_, e234, _, b1, _, _, d146 w.1, rfl⟩⟩⟩), rfl⟩)
      rw [b2.1] at hA
      have hRm : ∀ v ∈ rsL (fun i => σ (2 + 2 * t + 1) i) a3 n p q r, isLn v = true := by
        have hl := (H.2.2.1 t (by omega)).2
        have one : ∀ x y v, y ≤ n → v ∈ sg (fun i => σ (2 + 2 * t + 1) i) x y → isLn v = true := by
          intro x y v hy hv
          obtain ⟨j, j1, j2, j3⟩ := sg_mem hv
          rw [j3]
          exact hl j (by omega)
        intro v hv
        unfold rsL at hv
        rcases List.mem_append.mp hv with h | h
        · exact one _ _ _ (by omega) h
        · rcases List.mem_append.mp h with h | h
          · split at h
            · exact one _ _ _ (by omega) h
            · simp at h
          · rcases List.mem_append.mp h with h | h
            · split at h
              · exact one _ _ _ (by omega) h
              · simp at h
            · exact one _ _ _ (by omega) h
      have hkp := kp_rs (f := fun i => σ (2 + 2 * t + 1) i) g4 z1 z2 z3
      have hRl : (rsL (fun i => σ (2 + 2 * t + 1) i) a3 n p q r).length ≤ 16 := by
        have := kpF_len (f := fun i => σ (2 + 2 * t + 1) i) (K := kpB a3 p q r) n 0
        rw [hkp] at this
        omega
      generalize hRR : rsL (fun i => σ (2 + 2 * t + 1) i) a3 n p q r = R at hA b2 b3 hRm hkp hRl
      have sm : ∀ c k, 683 ≤ c → ¬ c = 726 → (upS s 726 ((0 : Int).toNat) ((R.length : Nat) : Int)) c k = σ c k := fun c k h1 h2 => by rw [up_a h2, b4 _ _ (by omega) (by omega) (by omega) (by omega)]
      have s7 : (upS s 726 ((0 : Int).toNat) ((R.length : Nat) : Int)) 726 0 = (R.length : Nat) := up_s
      have so : ∀ c k, ¬ c = 2 + 2 * t → ¬ c = 2 + 2 * t + 1 → ¬ c = 400 → ¬ c = 401 → ¬ c = 726 → (upS s 726 ((0 : Int).toNat) ((R.length : Nat) : Int)) c k = σ c k := fun c k h1 h2 h3 h4 h5 => by rw [up_a h5, b4 _ _ h1 h2 h3 h4]
      have sa : Rw (upS s 726 ((0 : Int).toNat) ((R.length : Nat) : Int)) (2 + 2 * t) R := Rw_fr (up_a (by omega)) (fun i => up_a (by omega)) b2
      have s4 : (upS s 726 ((0 : Int).toNat) ((R.length : Nat) : Int)) 400 1 = (R.length : Nat) := by rw [up_a (by omega)]; exact b3
      generalize (upS s 726 ((0 : Int).toNat) ((R.length : Nat) : Int)) = s1 at hA sm s7 so sa s4
      have m1 : ∀ c k, ¬ c = 682 → (upS (upS s1 682 0 0) 682 32 0) c k = s1 c k := fun c k h => by rw [up_a h, up_a h]
      obtain ⟨s2, f1, f2, f3, f4⟩ := l339b (f := fun i => σ (2 + 2 * t + 1) i) (t := t) (n := n) (by omega) h16 (d2 := some (vI x)) (d4 := some (vI 1)) g4 (p := p) (q := q) (r := r) n 0 none (upS (upS s1 682 0 0) 682 32 0) [] (by omega) (by rw [m1 _ _ (by decide), sm _ _ (by decide) (by decide)]; exact hm) (fun i hi => by rw [m1 _ _ (by decide), sm _ _ (by decide) (by decide)]; exact hf i hi) Rm_nil (by simp)
      rw [List.nil_append, hkp] at f1 f2 f3
      have hB : Dd 339 [vA 682, vI t, vI x, vI a3] s1 (rI (R.length : Nat) s2) := by
        refine b339 ⟨_, _, d247_ok k1, ?_⟩
        rw [if_neg (show ¬ (1 : Int) = 0 by decide)]
        refine ⟨_, _, dM s1 (fun c k h => sm _ _ (by omega) (by omega)), _, _, d246, ?_⟩
        rw [if_pos g3, if_neg (show ¬ (1 : Int) = 0 by decide)]
        refine b339_24 ?_
        rw [if_neg (show ¬ (1 : Int) = 0 by decide), if_pos g4.1, if_pos g4.2]
        refine b339_51 ⟨_, _, d245, ?_⟩
        rw [if_pos rfl, if_neg (show ¬ (1 : Int) = 0 by decide)]
        have := l339a (f := fun i => σ (2 + 2 * t + 1) i) (σ := upS s1 682 0 0) (t := t) (n := n) (by omega) (by rw [up_a (by decide), sm _ _ (by decide) (by decide)]; exact hm) h16 (fun i hi => by rw [up_a (by decide), sm _ _ (by decide) (by decide)]; exact hf i hi) (d2 := some (vI x)) (d4 := some (vI 1)) (d7 := none) (d8 := none) (d9 := none) (x3 := a3) (o := rI (R.length : Nat) s2) n 0 x (by omega) hx (by rw [← hp, ← hq, ← hr]; exact f1)
        exact this
      have m2 : ∀ c k, ¬ (c = 683 ∧ 16 * t ≤ k ∧ k < 16 * t + 16) → ¬ (c = 684 ∧ k = t) → ¬ c = 705 → ¬ (c = 682 ∧ (k = 0 ∨ k = 32)) → s2 c k = s1 c k := by
        intro c k h1 h2 h3 h4
        rw [f4 c k h1 h2 h3 (by omega)]
        unfold upS
        rw [if_neg (by omega), if_neg (by omega)]
      have m20 : s2 682 0 = 0 := by rw [f4 _ _ (by omega) (by omega) (by omega) (by omega), up_k (by omega), up_s]
      clear f1 f4 m1 dM dA e227 hkp
      have hoff : ∀ c k, ¬ (c = 2 + 2 * t ∨ c = 2 + 2 * t + 1 ∨ c = 400 ∨ c = 401 ∨ c = 726 ∨ c = 705 ∨ (c = 683 ∧ 16 * t ≤ k ∧ k < 16 * t + 16) ∨ (c = 684 ∧ k = t) ∨ (c = 682 ∧ (k = 0 ∨ k = 32))) → s2 c k = σ c k := by
        intro c k h
        rw [m2 c k (by omega) (by omega) (by omega) (by omega), so c k (by omega) (by omega) (by omega) (by omega) (by omega)]
      have a2 : Rw s2 (2 + 2 * t) R := Rw_fr (m2 _ _ (by omega) (by omega) (by omega) (by omega)) (fun i => m2 _ _ (by omega) (by omega) (by omega) (by omega)) sa
      have a4 : s2 400 1 = (R.length : Nat) := by rw [m2 _ _ (by omega) (by omega) (by omega) (by omega)]; exact s4
      refine op_fin hA hB m20 (fun _ => by rw [m2 _ _ (by omega) (by omega) (by omega) (by omega)]; exact s7) (fun a k ha => so _ _ (by omega) (by omega) (by omega) (by omega) (by omega)) (fun a k ha => hoff _ _ (by omega)) ?_
      obtain ⟨h1, h2, h3, h4, h5, h6, h7, h8, h9⟩ := H
      refine ⟨?_, Zl_fr (fun k => hoff _ _ (by omega)) h2, ?_, RB_fr (fun c k hc => hoff _ _ (by omega)) h4, RP_fr (fun c k hc => hoff _ _ (by omega)) h5, RSt_fr (by omega) (fun c k hc => hoff _ _ (by omega)) h6, RU_fr (fun c k hc => hoff _ _ (by omega)) h7, RF_fr (fun c k hc => hoff _ _ (by omega)) h8, RD_fr (fun c k hc => hoff _ _ (by omega)) h9⟩
      · intro a ha
        have hl := row_lt ha
        by_cases y1 : a = 2 + 2 * t
        · rw [y1, a2.1, hcap]; omega
        · by_cases y2 : a = 400
          · have hc4 : 16 ≤ cap 400 := by decide +kernel
            rw [y2, a4]; omega
          · have n1 : ¬ a = 401 := row_nx (a := 400) (by decide +kernel) ha
            have n2 : ¬ a = 2 + 2 * t + 1 := row_nx w.1 ha
            rw [hoff _ _ (by omega)]
            exact h1 a ha
      · intro u hu
        by_cases y : u = t
        · rw [y]
          refine ⟨⟨by rw [a2.1, f2], fun i hi => ?_⟩, fun i hi => ?_⟩
          · rw [f2] at hi
            have hl : i < R.length := by omega
            rw [a2.2 i _ (List.getElem?_eq_getElem hl), f3 i _ (List.getElem?_eq_getElem hl)]
          · rw [a2.1] at hi
            have hl : i < R.length := by omega
            rw [a2.2 i _ (List.getElem?_eq_getElem hl)]
            exact hRm _ (List.getElem_mem hl)
        · obtain ⟨v1, v2⟩ := h3 u hu
          have hw := (rel_t ⟨h1, h2, h3, h4, h5, h6, h7, h8, h9⟩ (t := (u : Int)) (by omega)).2.2
          rw [show ((u : Int)).toNat = u by omega] at hw
          have v11 := v1.1
          refine ⟨rowEq_fr2 (hoff _ _ (by omega)) (fun i => hoff _ _ (by omega)) (fun i hi => hoff _ _ (by omega)) (hoff _ _ (by omega)) v1, fun i hi => ?_⟩
          rw [hoff _ _ (by omega)] at hi ⊢
          exact v2 i hi
    · have hA : Dd 199 [vA 0, vI t, vI a2, vI a3] σ (rX 1 σ) := by
        refine b199 (Or.inl ⟨_, _, e227, w.1, _, _, dA, Or.inl ⟨_, e232, Or.inr ⟨_, _, b234 ?_, rfl⟩⟩⟩)
        by_cases y : 1 ≤ a3
        · rw [if_pos y, if_pos (by omega)]; exact b234_10 rfl
        · rw [if_neg y]; exact b234_10 rfl
      have hB : Dd 339 [vA 682, vI t, vI a2, vI a3] σ (rI 0 (upS σ 682 0 2)) := by
        refine b339 ⟨_, _, d247_ok k1, ?_⟩
        rw [if_neg (show ¬ (1 : Int) = 0 by decide)]
        refine ⟨_, _, dM σ (fun c k h => rfl), _, _, d246, ?_⟩
        rw [if_pos g3, if_neg (show ¬ (1 : Int) = 0 by decide)]
        have go : ∀ {d4 d5 d6 d7 d8 d9 : Option AV}, C339_51 t a2 a3 d4 d5 d6 d7 d8 d9 2 σ (rI 0 (upS σ 682 0 2)) := by
          intro d4 d5 d6 d7 d8 d9
          refine b339_51 ⟨_, _, d245, ?_⟩
          rw [if_neg (show ¬ (2 : Int) = 0 by decide), if_pos rfl]
        refine b339_24 ?_
        rw [if_neg (show ¬ (1 : Int) = 0 by decide)]
        by_cases y : 1 ≤ a3
        · rw [if_pos y, if_neg (by omega)]; exact b339_50 go
        · rw [if_neg y]; exact b339_50 go
      exact op_x H (by decide) (b416 (Or.inr (Or.inr ⟨_, hA, rfl⟩))) hB
  · have hA : Dd 199 [vA 0, vI t, vI a2, vI a3] σ (rX 0 σ) := by
      refine b199 (Or.inl ⟨_, _, e227, w.1, _, _, dA, Or.inr ⟨_, _, b232 ?_, rfl⟩⟩)
      by_cases y : 0 ≤ a2
      · rw [if_pos y, if_pos (by omega)]; exact b232_9 rfl
      · rw [if_neg y]; exact b232_9 rfl
    have hB : Dd 339 [vA 682, vI t, vI a2, vI a3] σ (rI 0 (upS σ 682 0 1)) := by
      refine b339 ⟨_, _, d247_ok k1, ?_⟩
      rw [if_neg (show ¬ (1 : Int) = 0 by decide)]
      refine ⟨_, _, dM σ (fun c k h => rfl), _, _, d246, ?_⟩
      rw [if_neg g3, if_pos rfl]
      refine b339_23 (b339_24 ?_)
      rw [if_pos rfl]
      refine b339_51 ⟨_, _, d245, ?_⟩
      rw [if_neg (show ¬ (1 : Int) = 0 by decide), if_pos rfl]
    exact op_x H (by decide) (b416 (Or.inr (Or.inl ⟨_, hA, rfl⟩))) hB
end
