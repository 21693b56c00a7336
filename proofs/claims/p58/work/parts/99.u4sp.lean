/-! split, both sides. -/
noncomputable section
theorem d232_no {i n : Int} {σ : Sg} (h : ¬ (0 ≤ i ∧ i < n)) : Dd 232 [vA 0, vI i, vI n] σ (rX 0 σ) := by
  refine b232 ?_
  by_cases y : 0 ≤ i
  · rw [if_pos y, if_pos (by omega)]
    exact b232_9 rfl
  · rw [if_neg y]
    exact b232_9 rfl
theorem d234_no {i n m : Int} {σ : Sg} (h : ¬ (m ≤ i ∧ i ≤ n)) : Dd 234 [vA 0, vI i, vI m, vI n] σ (rX 1 σ) := by
  refine b234 ?_
  by_cases y : m ≤ i
  · rw [if_pos y, if_pos (by omega)]
    exact b234_10 rfl
  · rw [if_neg y]
    exact b234_10 rfl
theorem sp_len {O N : Nat → Int} {nb o n p q : Nat} (h : o + p ≤ nb) : (spM O N nb o n p q).length = nb + q - p := by
  unfold spM
  rw [List.length_append, List.length_append, rl_len, rl_len, rl_len]
  omega
theorem spf_len {nb o p q : Nat} (h : o + p ≤ nb) : (spf nb o p q).length = nb := by
  unfold spf
  rw [List.length_append, List.length_append, rl_len, rl_len, rl_len]
  omega
theorem spg_len {F : Nat → Int} {nb o n p q : Nat} (h : o + p ≤ nb) : (spg F nb o n p q).length = nb + q - p := by
  unfold spg
  rw [List.length_append, List.length_append, rl_len, rl_len, rl_len]
  omega
/-- splits -/
theorem d298 {σ : Sg} {s nb na h o d n aa p q : Nat} {F O N : Nat → Int} (C : CX9 σ s nb na h o n aa F O N) (hp : p ≤ d) (hd : o + d ≤ nb) (hq : q ≤ aa) (hM : nb + q ≤ 96) : ∃ s2, Dd 298 [vA 682, vI s, vI h, vI p, vI q, vI 39, vI 40] σ (rV s2) ∧ Slot s2 39 nb (spM O N nb o n p q).length O (gv (spM O N nb o n p q)) (gv (spf nb o p q)) ∧ Slot s2 40 (spM O N nb o n p q).length na (gv (spM O N nb o n p q)) N (gv (spg F nb o n p q)) ∧ ∀ c x, ¬ (685 ≤ c ∧ c ≤ 687 ∧ 3900 ≤ x ∧ x < 4100) → ¬ ((c = 688 ∨ c = 689) ∧ (x = 39 ∨ x = 40)) → s2 c x = σ c x := by
  have CC := C
  obtain ⟨h1, h2, h3, h4, h5, h6, c1, c2, c3, c4, c5, c6, c7⟩ := C
  obtain ⟨σ1, a1, a2, a3⟩ := l298a (p := p) (q := q) CC (by omega) o 0 [] [] [] σ (by omega) (by show 0 + o ≤ 97; omega) rfl rfl ⟨⟨fun x v e => by simp at e, fun x v e => by simp at e, fun x v e => by simp at e⟩, fun x hx => absurd hx (Nat.not_lt_zero x)⟩ (fun _ _ _ _ _ => rfl)
  simp only [List.nil_append, List.length_nil, Nat.zero_add] at a1 a2
  obtain ⟨σ2, e1, e2, e3⟩ := l298i (p := p) (q := q) CC hq q 0 (rlZ O 0 o) (rlZ idZ 0 o) (rlZ F 0 o) σ1 (by omega) (by rw [rl_len]; omega) (rl_len _ _) (by rw [rl_len, rl_len]) a2 a3
  simp only [Nat.add_zero] at e2
  rw [rl_len] at e1
  have lM : (rlZ O 0 o ++ rlZ N n q).length = o + q := by rw [List.length_append, rl_len, rl_len]
  have lg : (rlZ F 0 o ++ rlZ idZ n q).length = o + q := by rw [List.length_append, rl_len, rl_len]
  obtain ⟨σ3, g1, g2, g3⟩ := l298p (p := p) (q := q) CC (by omega) (by omega) p o (rlZ O 0 o ++ rlZ N n q) (rlZ idZ 0 o) (rlZ F 0 o ++ rlZ idZ n q) σ2 (Nat.le_refl _) rfl (rl_len _ _) e2 e3
  have lf : (rlZ idZ 0 o ++ rlZ m1Z o p).length = o + p := by rw [List.length_append, rl_len, rl_len]
  obtain ⟨σ4, k1, k2, k3⟩ := l298b (p := p) (q := q) CC (by omega) (nb - (o + p)) (o + p) (rlZ O 0 o ++ rlZ N n q) (rlZ idZ 0 o ++ rlZ m1Z o p) (rlZ F 0 o ++ rlZ idZ n q) σ3 (Nat.le_refl _) (by omega) (by rw [lM]; omega) lf (by rw [lM, lg]) g2 g3
  rw [lM] at g1 k1 k2
  rw [show o + p + (nb - (o + p)) = nb by omega] at k1 k2
  have eM : (spM O N nb o n p q).length = o + q + (nb - (o + p)) := by rw [sp_len (by omega)]; omega
  have k2' : RS9 σ4 O nb (spM O N nb o n p q) (spf nb o p q) (spg F nb o n p q) := k2
  obtain ⟨s2, r1, r2, r3, r4⟩ := l298z (p := p) (q := q) CC (by rw [eM]; omega) (spf_len (by omega)) (by rw [spg_len (by omega), sp_len (by omega)]) k2' k3
  rw [eM] at r1
  refine ⟨s2, b298 ⟨by omega, ?_⟩, r2, r3, r4⟩
  rw [tn, c6]
  refine a1 (fun d10 => ?_) none
  refine b298_14 ⟨by omega, ?_⟩
  rw [tn, a3 688 s (by omega) (by omega) (by omega), c1, if_pos (by omega)]
  exact e1 (g1 (k1 r1))
/-- split -/
theorem o14 {σ : Sg} {c a1 a2 a3 a4 a5 : Int} (H : Rel c σ) : OpR 404 305 [vA 0, vI a1, vI a2, vI a3, vI a4, vI a5, vA 726] [vA 682, vI a1, vI a2, vI a3, vI a4, vI a5] σ (c + 1) := by
  by_cases g1 : a1 < 0
  · exact x14_0 H g1
  by_cases g2 : σ 0 3 ≤ a1
  · exact x14_1 H g2
  have k1 : 0 ≤ a1 ∧ a1 < σ 0 3 := by omega
  obtain ⟨a, rfl⟩ := Int.eq_ofNat_of_zero_le k1.1
  have hn := (rel_n H).1
  obtain ⟨hP, q1, q2, w1, w3⟩ := po_pat H k1.2
  obtain ⟨nb, na, hb1, hb2, N, S⟩ := po_slot q1 q2 w1 w3
  have e230 := d230_ok (σ := σ) k1 hn.2.2
  rw [show ((a : Int)).toNat = a by omega] at e230
  have ha24 : a < 24 := by omega
  have C := PC_of N (by omega) (by omega)
  obtain ⟨l, hl⟩ : ∃ l, l = hks (σ (20 + 13 * a + 6)) nb na := ⟨_, rfl⟩
  have V := N.2.2.2.2.1
  have D := DS_0 V
  have hlnb := hks_len V
  rw [← hl] at C D hlnb
  have e98 := d98' hP C
  -- the reference's list of hunks
  have m280 : ∀ {s : Sg}, (∀ c k, 682 ≤ c → ¬ c = 726 → s c k = σ c k) → ∃ s4, Dd 280 [vA 682, vI a, vI 0] s (rI (l.length : Nat) s4) ∧ HK s4 0 0 l ∧ (∀ c k, ¬ (700 ≤ c ∧ c ≤ 704) → s4 c k = s c k) := by
    intro s hs
    have S2 : Slot s a nb na (σ (20 + 13 * a + 2)) (σ (20 + 13 * a + 4)) (σ (20 + 13 * a + 6)) := Slot_fr (fun c k h => hs c k (by omega) (by omega)) S
    obtain ⟨s4, x1, x2, x3, x4, x5⟩ := d280 (s := a) (wh := 0) (σ := s) (by omega) (by decide) (by omega) (by omega) V S2.1 S2.2.1 S2.2.2.2.2
    rw [← hl] at x1 x2
    exact ⟨s4, x1, x2, fun c k h => x5 c k (by omega) (by omega)⟩
  have m304 : ∀ {s s4 : Sg}, s 682 3 = σ 682 3 → 0 ≤ a2 → Dd 280 [vA 682, vI a, vI 0] s (rI (l.length : Nat) s4) → Dd 304 [vA 682, vI a, vI a2] s (rI (if a2 < (l.length : Nat) then 1 else 0) s4) := by
    intro s s4 h h2 h3
    refine b304 ⟨_, _, d248_ok (by omega), ?_⟩
    rw [if_neg (show ¬ (1 : Int) = 0 by decide), if_pos h2]
    exact ⟨_, _, h3, rfl⟩
  have mx : ∀ (s : Sg) (d1 d2 d3 d4 d6 d7 : Option AV) (k : Int), ¬ k = 0 → C305_114 d1 d2 d3 d4 a5 d6 d7 k s (rI 0 (upS s 682 0 k)) := fun s d1 d2 d3 d4 d6 d7 k hk => by
    refine b305_114 ⟨_, _, d245, ?_⟩
    rw [if_neg hk, if_pos rfl]
  have off : ∀ {s4 : Sg} {k : Int}, (∀ c x, ¬ (700 ≤ c ∧ c ≤ 704) → s4 c x = σ c x) → (∀ x y, x < 682 ∨ 726 ≤ x → upS s4 682 0 k x y = σ x y) ∧ ∀ x y, 682 ≤ x → KP x y → ¬ (685 ≤ x ∧ x ≤ 687 ∧ 2900 ≤ y) → ¬ ((x = 688 ∨ x = 689) ∧ 29 ≤ y) → upS s4 682 0 k x y = σ x y := fun {s4 k} h => ⟨fun x y hx => by rw [up_a (by omega)]; exact h x y (by omega), fun x y h1 h2 h3 h4 => by
    have : upS s4 682 0 k x y = s4 x y := by unfold upS; rw [if_neg (by omega)]
    rw [this]
    exact h x y (by omega)⟩
  by_cases g3 : 0 ≤ a2 ∧ a2 < (l.length : Nat)
  · obtain ⟨h, rfl⟩ := Int.eq_ofNat_of_zero_le g3.1
    have hlt : h < l.length := by omega
    obtain ⟨q, hq⟩ : ∃ q, l[h]? = some q := ⟨l[h], List.getElem?_eq_getElem hlt⟩
    have bq := (DS_b _ _ _ _ D).2.2 q (List.mem_of_getElem? hq)
    obtain ⟨e101, e104⟩ := pc_at2 hP (WF_w H.1 (pat_9 hP)) C hq
    obtain ⟨o, d, n, aa⟩ := q
    have bq1 : o + d ≤ nb := bq.2.1
    have bq2 : n + aa ≤ na := bq.2.2.2
    have e101 : Dd 101 [vA (20 + 13 * a), vI h] σ (rI (d : Nat) σ) := e101
    have e104 : Dd 104 [vA (20 + 13 * a), vI h] σ (rI (aa : Nat) σ) := e104
    have e232 := d232_ok (σ := σ) (i := (h : Int)) (n := ((l.length : Nat) : Int)) g3
    -- the reference, up to the hunk's parts
    have mh : ∀ {s : Sg}, (∀ c k, 682 ≤ c → ¬ c = 726 → s c k = σ c k) → ∃ s4, HK s4 0 0 l ∧ (∀ c k, ¬ (700 ≤ c ∧ c ≤ 704) → s4 c k = s c k) ∧ ∀ {u : Rs}, (if (if 0 ≤ a3 ∧ a3 < ((d : Nat) : Int) + 1 then (1 : Int) else 0) = 0 then C305_48 a h a3 a4 a5 1 none s4 u else (if (if 0 ≤ a4 ∧ a4 < ((aa : Nat) : Int) + 1 then (1 : Int) else 0) = 0 then C305_48 a h a3 a4 a5 1 none s4 u else C305_49 a h a3 a4 a5 1 none 1 s4 u)) → Dd 305 [vA 682, vI a, vI h, vI a3, vI a4, vI a5] s u := by
      intro s hs
      obtain ⟨s4, x1, x2, x3⟩ := m280 hs
      obtain ⟨v0, v1, v2, v3⟩ := HK_at x2 hq
      have v1 : s4 701 h = (d : Nat) := v1
      have v3 : s4 703 h = (aa : Nat) := v3
      refine ⟨s4, x2, x3, fun {u} hh => b305 ⟨_, _, m304 (hs _ _ (by decide) (by decide)) g3.1 x1, ?_⟩⟩
      rw [if_pos g3.2, if_neg (show ¬ (1 : Int) = 0 by decide), tn, v1]
      refine ⟨by omega, by omega, _, _, d246, ?_⟩
      by_cases y : (if 0 ≤ a3 ∧ a3 < ((d : Nat) : Int) + 1 then (1 : Int) else 0) = 0
      · rw [if_pos y] at hh ⊢
        exact hh
      · rw [if_neg y] at hh ⊢
        rw [v3]
        refine ⟨by omega, by omega, _, _, d246, ?_⟩
        exact hh
    have mfail : ∀ {s s4 : Sg}, C305_48 a h a3 a4 a5 1 none s4 (rI 0 (upS s4 682 0 2)) := fun {s s4} => by
      refine b305_48 (b305_49 ?_)
      rw [if_pos rfl]
      refine b305_69 ?_
      rw [if_neg (show ¬ (1 : Int) = 0 by decide), if_pos rfl]
      exact mx _ _ _ _ _ _ _ _ (by decide)
    by_cases g4 : 0 ≤ a3 ∧ a3 ≤ (d : Nat)
    · by_cases g5 : 0 ≤ a4 ∧ a4 ≤ (aa : Nat)
      · obtain ⟨p, rfl⟩ := Int.eq_ofNat_of_zero_le g4.1
        obtain ⟨r, rfl⟩ := Int.eq_ofNat_of_zero_le g5.1
        have hp : p ≤ d := by omega
        have hr : r ≤ aa := by omega
        have hMl := sp_len (O := σ (20 + 13 * a + 2)) (N := σ (20 + 13 * a + 4)) (nb := nb) (o := o) (n := n) (p := p) (q := r) (by omega)
        have hfl := spf_len (nb := nb) (o := o) (p := p) (q := r) (by omega)
        have hgl := spg_len (F := σ (20 + 13 * a + 6)) (nb := nb) (o := o) (n := n) (p := p) (q := r) (by omega)
        obtain ⟨M, hM⟩ : ∃ M, M = spM (σ (20 + 13 * a + 2)) (σ (20 + 13 * a + 4)) nb o n p r := ⟨_, rfl⟩
        obtain ⟨f, hf⟩ : ∃ f, f = spf nb o p r := ⟨_, rfl⟩
        obtain ⟨g, hg⟩ : ∃ g, g = spg (σ (20 + 13 * a + 6)) nb o n p r := ⟨_, rfl⟩
        rw [← hM] at hMl
        rw [← hf] at hfl
        rw [← hg] at hgl
        have e146 := d146 (σ := σ) (pat_1 hP)
        rw [N.1] at e146
        -- the reference, past the splitting
        have mP : ∀ {s : Sg}, (∀ c k, 682 ≤ c → ¬ c = 726 → s c k = σ c k) → ∃ s3, (∀ {u : Rs}, C305_69 (some (vI a)) (some (vI h)) (some (vI p)) (some (vI r)) a5 1 1 s3 u → Dd 305 [vA 682, vI a, vI h, vI p, vI r, vI a5] s u) ∧ Slot s3 39 nb M.length (σ (20 + 13 * a + 2)) (gv M) (gv f) ∧ Slot s3 40 M.length na (gv M) (σ (20 + 13 * a + 4)) (gv g) ∧ ∀ c x, ¬ c = 690 → ¬ (700 ≤ c ∧ c ≤ 704) → ¬ (685 ≤ c ∧ c ≤ 687 ∧ 3900 ≤ x ∧ x < 4100) → ¬ ((c = 688 ∨ c = 689) ∧ (x = 39 ∨ x = 40)) → s3 c x = s c x := by
          intro s hs
          obtain ⟨s4, x2, x3, x4⟩ := mh hs
          obtain ⟨v0, v1, v2, v3⟩ := HK_at x2 hq
          have fr : ∀ c k, 685 ≤ c ∧ c ≤ 689 → s4 c k = σ c k := fun c k h => by rw [x3 c k (by omega)]; exact hs c k (by omega) (by omega)
          obtain ⟨t1, t2, t3, t4, t5⟩ := Slot_fr fr S
          obtain ⟨s3, y1, y2, y3, y4⟩ := d298 (σ := s4) (s := a) (h := h) (o := o) (d := d) (n := n) (aa := aa) (p := p) (q := r) ⟨by omega, by omega, by omega, by omega, by omega, bq2, t1, t2, t3, t4, t5, v0, v2⟩ hp bq1 hr (by omega)
          rw [← hM, ← hf] at y2
          rw [← hM, ← hg] at y3
          refine ⟨s3, fun {u} hh => x4 ?_, y2, y3, fun c x _ h2 h3 h4 => by rw [y4 c x h3 h4]; exact x3 c x h2⟩
          rw [if_pos (show 0 ≤ (p : Int) ∧ (p : Int) < ((d : Nat) : Int) + 1 by omega), if_neg (show ¬ (1 : Int) = 0 by decide), if_pos (show 0 ≤ (r : Int) ∧ (r : Int) < ((aa : Nat) : Int) + 1 by omega), if_neg (show ¬ (1 : Int) = 0 by decide)]
          refine b305_49 ?_
          rw [if_neg (show ¬ (1 : Int) = 0 by decide)]
          exact ⟨s3, y1, hh⟩
        have m109 : ∀ (s : Sg) (d1 d2 d3 d4 d6 d7 : Option AV), C305_109 d1 d2 d3 d4 a5 d6 d7 s (rI 0 (upS s 682 0 3)) := fun s d1 d2 d3 d4 d6 d7 => b305_109 (mx _ _ _ _ _ _ _ _ (by decide))
        have off3 : ∀ {s1 s3 : Sg} {k : Int}, (∀ x y, 682 ≤ x → s1 x y = σ x y) → (∀ c x, ¬ c = 690 → ¬ (700 ≤ c ∧ c ≤ 704) → ¬ (685 ≤ c ∧ c ≤ 687 ∧ 3900 ≤ x ∧ x < 4100) → ¬ ((c = 688 ∨ c = 689) ∧ (x = 39 ∨ x = 40)) → s3 c x = s1 c x) → (∀ x y, x < 682 ∨ 726 ≤ x → upS s3 682 0 k x y = s1 x y) ∧ ∀ x y, 682 ≤ x → KP x y → ¬ (685 ≤ x ∧ x ≤ 687 ∧ 2900 ≤ y) → ¬ ((x = 688 ∨ x = 689) ∧ 29 ≤ y) → upS s3 682 0 k x y = σ x y := fun {s1 s3 k} h0 h => ⟨fun x y hx => by rw [up_a (by omega)]; exact h x y (by omega) (by omega) (by omega) (by omega), fun x y h1 h2 h3 h4 => by
          have : upS s3 682 0 k x y = s3 x y := by unfold upS; rw [if_neg (by omega)]
          rw [this, h x y (by omega) (by omega) (by omega) (by omega)]
          exact h0 x y h1⟩
        by_cases g6 : 16 < M.length
        · have hA := b404 (x5 := a5) (Or.inr (Or.inr (Or.inr ⟨_, b186 (Or.inl ⟨_, _, e230, hP, _, _, e98, Or.inl ⟨_, e232, _, _, e101, Or.inl ⟨_, d234_ok g4, _, _, e104, Or.inl ⟨_, d234_ok g5, _, _, e146, by omega, by omega, by rw [if_pos (by omega)]⟩⟩⟩⟩), rfl⟩)))
          obtain ⟨s3, v1, v2, v3, v4⟩ := mP (s := σ) (fun _ _ _ _ => rfl)
          obtain ⟨f1, f2⟩ := off3 (k := 3) (s1 := σ) (fun _ _ _ => rfl) v4
          refine op_full2 H (kx := 3) (σ1 := σ) (by decide) H.1 (fun _ _ _ _ => rfl) (fun _ _ _ => rfl) hA ⟨upS s3 682 0 3, 0, v1 (b305_69 ?_), up_s, f1, f2⟩
          rw [if_neg (show ¬ (1 : Int) = 0 by decide), if_neg (show ¬ (1 : Int) = 0 by decide), show ((39 : Int)).toNat = 39 from rfl, v2.2.1, if_neg (by omega)]
          exact m109 _ _ _ _ _ _ _
        obtain ⟨s8, b1', b2', b3'⟩ := d11 (σ := σ) (P := 20 + 13 * a) (nb := nb) (na := na) (c := h) (o := o) (d := d) (n := n) (aa := aa) (p := p) (q := r) (O := σ (20 + 13 * a + 2)) (N := σ (20 + 13 * a + 4)) (l := l) hP (by omega) ⟨WF_w H.1 (pat_1 hP), N.1, fun _ _ => rfl⟩ ⟨WF_w H.1 (pat_3 hP), N.2.1, fun _ _ => rfl⟩ (WF_w H.1 (pat_9 hP)) C D (by omega) (by omega) (fun i hi e => GDg N q2 i hi e) hq hp hr
        rw [← hM, ← hf, ← hg] at b2'
        have lX : ∀ i, i < nb → isLn (σ (20 + 13 * a + 2) i) = true := fun i hi => q2.2.2.2.2.2.2.2.1 i (by rw [N.1]; omega)
        have lZ : ∀ i, i < na → isLn (σ (20 + 13 * a + 4) i) = true := fun i hi => q2.2.2.2.2.2.2.2.2.1 i (by rw [N.2.1]; omega)
        have lnb : (rlZ (σ (20 + 13 * a + 2)) 0 nb).length = nb := rl_len _ _
        have lna : (rlZ (σ (20 + 13 * a + 4)) 0 na).length = na := rl_len _ _
        have W8 : WF s8 := FIN8_w H.1 b2' ⟨by show (rlZ (σ (20 + 13 * a + 2)) 0 nb).length ≤ 96; omega, by show M.length ≤ 96; omega, by show (rlZ (σ (20 + 13 * a + 4)) 0 na).length ≤ 96; omega⟩ b3'
        have rv : ∀ {X : Nat → Int} {m : Nat} (x : Nat) (v : Int), (rlZ X 0 m)[x]? = some v → v = X x := fun {X m} x v e => by
          have hx := (List.getElem?_eq_some_iff.mp e).1
          rw [rl_len] at hx
          rw [rl_get m 0 x hx, Nat.zero_add] at e
          exact (Option.some.inj e).symm
        have lv : ∀ (x : Nat) (v : Int), M[x]? = some v → isLn v = true := by
          rw [hM]
          unfold spM
          refine ap_ln (ap_ln (fun x v e => ?_) (fun x hx => lZ _ (by omega))) (fun x hx => lX _ (by omega))
          have hx := (List.getElem?_eq_some_iff.mp e).1
          rw [rl_len] at hx
          rw [rv x v e]
          exact lX x (by omega)
        obtain ⟨po1, po2⟩ := FIN8_PO b2' (by omega) (by omega) (by omega) rv rv lv (by rw [lnb]; exact lX) (by rw [lna]; exact lZ)
        have F1 : ∀ a k, a < 682 → KP a k → s8 a k = σ a k := fun a k h1 h2 => b3' a k (by omega) (by omega)
        have G1 : ∀ a k, 682 ≤ a → s8 a k = σ a k := fun a k h1 => b3' a k (by omega) (by omega)
        have fin : ∀ (Q y n1 n2 : Nat) (O T F' : Nat → Int), isPatch Q = true → 332 ≤ Q → (y = 39 ∨ y = 40) → Dd 2 [vA 350, vI a5] s8 (rA Q s8) → PO s8 Q 16 → s8 (Q + 1) 1 = (n1 : Nat) → s8 (Q + 3) 1 = (n2 : Nat) → n1 ≤ 16 → n2 ≤ 16 → (if a5 = 0 then (40 : Int) else 39) = (y : Nat) → (∀ i, i < n1 → O i = s8 (Q + 2) i) → (∀ i, i < n2 → T i = s8 (Q + 4) i) → (∀ i, i < n1 → F' i = s8 (Q + 6) i) → (∀ s3, Slot s3 39 nb M.length (σ (20 + 13 * a + 2)) (gv M) (gv f) → Slot s3 40 M.length na (gv M) (σ (20 + 13 * a + 4)) (gv g) → Slot s3 y n1 n2 O T F') → OpR 404 305 [vA 0, vI a, vI h, vI p, vI r, vI a5, vA 726] [vA 682, vI a, vI h, vI p, vI r, vI a5] σ (c + 1) := by
          intro Q y n1 n2 O T F' hQQ hQ2 hy e2 PQ k1' k2' m1 m2 ey hO hT hF hSl
          by_cases g7 : σ 0 3 < 24
          · obtain ⟨pp, hpp⟩ := Int.eq_ofNat_of_zero_le hn.2.1
            refine op_st2 H hpp (by omega) hQQ hQ2 W8 F1 G1 PQ k1' k2' (fun s hs => b404 (Or.inl ⟨_, _, b186 (Or.inl ⟨_, _, e230, hP, _, _, e98, Or.inl ⟨_, e232, _, _, e101, Or.inl ⟨_, d234_ok g4, _, _, e104, Or.inl ⟨_, d234_ok g5, _, _, e146, by omega, by omega, by
              rw [if_neg (by omega)]
              exact ⟨s8, b1', Q, s8, e2, hQQ, Or.inl ⟨_, _, hs, rfl⟩⟩⟩⟩⟩⟩), rfl⟩)) (fun s hs => ?_)
            obtain ⟨s3, v1, v2, v3, v4⟩ := mP hs
            have SL := hSl s3 v2 v3
            have e3 : s3 682 3 = (pp : Nat) := by rw [v4 _ _ (by decide) (by decide) (by decide) (by decide), hs _ _ (by decide) (by decide), hn.1, hpp]
            have e3' : upS s3 682 0 0 682 3 = (pp : Nat) := by rw [up_k (by decide)]; exact e3
            have S5 : Slot (upS s3 682 0 0) y n1 n2 O T F' := Slot_fr (fun c k h => by rw [up_a (by omega)]) SL
            have S6 : Slot (cpyS (upS s3 682 0 0) y pp) pp n1 n2 O T F' := Slot_cpy (by omega) (by omega) S5
            refine ⟨upS (cpyS (upS s3 682 0 0) y pp) 682 3 ((pp : Int) + 1), v1 (b305_69 ?_), ?_, up_s, fun x k h => ?_, fun x k h1 h2 h3 h4 h5 h6 h7 h8 => ?_, ?_⟩
            · rw [if_neg (show ¬ (1 : Int) = 0 by decide), if_neg (show ¬ (1 : Int) = 0 by decide), show ((39 : Int)).toNat = 39 from rfl, v2.2.1, if_pos (by omega), e3, if_neg (by omega)]
              refine b305_114 ⟨_, _, d245, ?_⟩
              rw [if_pos rfl, if_neg (show ¬ (1 : Int) = 0 by decide), ey]
              exact b305_135 ⟨_, _, d289_ok (by omega) e3' (by omega), rfl⟩
            · rw [up_k (by decide), cpy_out (by omega) (by omega), up_s]
            · rw [up_a (by omega), cpy_out (by omega) (by omega), up_a (by omega)]
              exact v4 x k (by omega) (by omega) (by omega) (by omega)
            · have : upS (cpyS (upS s3 682 0 0) y pp) 682 3 ((pp : Int) + 1) x k = cpyS (upS s3 682 0 0) y pp x k := by unfold upS; rw [if_neg h4]
              rw [this, cpy_out h5 h6]
              have : upS s3 682 0 0 x k = s3 x k := by unfold upS; rw [if_neg (by omega)]
              rw [this, v4 x k (by omega) (by omega) (by omega) (by omega)]
              exact hs x k h1 (by omega)
            · exact Slot_fr (fun c k h => by rw [up_a (by omega)]) (Slot_cg (fun i hi => (hO i hi).symm) (fun i hi => (hT i hi).symm) (fun i hi => (hF i hi).symm) S6)
          · have hfull : Dd 242 [vA 0, vA Q] s8 (rX 2 s8) := d242_full (by rw [F1 0 3 (by decide) (kq_P (by omega))]; exact g7)
            have hA := b404 (x5 := a5) (Or.inr (Or.inr (Or.inr ⟨_, b186 (Or.inl ⟨_, _, e230, hP, _, _, e98, Or.inl ⟨_, e232, _, _, e101, Or.inl ⟨_, d234_ok g4, _, _, e104, Or.inl ⟨_, d234_ok g5, _, _, e146, by omega, by omega, by
              rw [if_neg (by omega)]
              exact ⟨s8, b1', Q, s8, e2, hQQ, Or.inr ⟨_, _, hfull, rfl⟩⟩⟩⟩⟩⟩), rfl⟩)))
            obtain ⟨s3, v1, v2, v3, v4⟩ := mP (s := s8) (fun x k h _ => G1 x k h)
            have e3 : s3 682 3 = 24 := by
              rw [v4 _ _ (by decide) (by decide) (by decide) (by decide), G1 _ _ (by decide)]
              omega
            obtain ⟨f1, f2⟩ := off3 (k := 3) (s1 := s8) G1 v4
            refine op_full2 H (kx := 3) (σ1 := s8) (by decide) W8 F1 G1 hA ⟨upS s3 682 0 3, 0, v1 (b305_69 ?_), up_s, f1, f2⟩
            rw [if_neg (show ¬ (1 : Int) = 0 by decide), if_neg (show ¬ (1 : Int) = 0 by decide), show ((39 : Int)).toNat = 39 from rfl, v2.2.1, if_pos (by omega), e3, if_pos rfl]
            exact m109 _ _ _ _ _ _ _
        obtain ⟨⟨f1, -, f3, f4, f5, -⟩, ⟨f7, -, f9, f10, f11, -⟩⟩ := b2'
        by_cases g8 : a5 = 0
        · refine fin 364 40 M.length na (gv M) (σ (20 + 13 * a + 4)) (gv g) WDp364.1 (by decide) (Or.inr rfl) (b2 (by rw [if_pos g8])) po2 f7.1 (by rw [f7.2.1]; exact congrArg _ lna) (by omega) hb2 (by rw [if_pos g8]; rfl) (fun i hi => (f9 i _ (gv_at hi)).symm) (fun i hi => ?_) (fun i hi => (f11 i _ (gv_at (by show i < g.length; omega))).symm) (fun s3 _ h => h)
          have hi' : i < (rlZ (σ (20 + 13 * a + 4)) 0 na).length := by omega
          rw [f10 i _ (gv_at hi'), rv i _ (gv_at hi')]
        · refine fin 351 39 nb M.length (σ (20 + 13 * a + 2)) (gv M) (gv f) WDp351.1 (by decide) (Or.inl rfl) (b2 (by rw [if_neg g8])) po1 (by rw [f1.1]; exact congrArg _ lnb) f1.2.1 hb1 (by omega) (by rw [if_neg g8]; rfl) (fun i hi => ?_) (fun i hi => (f4 i _ (gv_at hi)).symm) (fun i hi => (f5 i _ (gv_at (by show i < f.length; omega))).symm) (fun s3 h _ => h)
          have hi' : i < (rlZ (σ (20 + 13 * a + 2)) 0 nb).length := by omega
          rw [f3 i _ (gv_at hi'), rv i _ (gv_at hi')]
      · -- too many added lines
        have hA := b404 (x5 := a5) (Or.inr (Or.inr (Or.inl ⟨_, b186 (Or.inl ⟨_, _, e230, hP, _, _, e98, Or.inl ⟨_, e232, _, _, e101, Or.inl ⟨_, d234_ok g4, _, _, e104, Or.inr ⟨_, _, d234_no g5, rfl⟩⟩⟩⟩), rfl⟩)))
        obtain ⟨s4, v1, v2, v3⟩ := mh (s := σ) (fun _ _ _ _ => rfl)
        obtain ⟨f1, f2⟩ := off (k := 2) v2
        refine op_full2 H (kx := 2) (σ1 := σ) (by decide) H.1 (fun _ _ _ _ => rfl) (fun _ _ _ => rfl) hA ⟨upS s4 682 0 2, 0, v3 ?_, up_s, f1, f2⟩
        rw [if_pos (show 0 ≤ a3 ∧ a3 < ((d : Nat) : Int) + 1 by omega), if_neg (show ¬ (1 : Int) = 0 by decide), if_neg (show ¬ (0 ≤ a4 ∧ a4 < ((aa : Nat) : Int) + 1) by omega), if_pos rfl]
        exact mfail (s := s4)
    · -- too many dropped lines
      have hA := b404 (x4 := a4) (x5 := a5) (Or.inr (Or.inr (Or.inl ⟨_, b186 (Or.inl ⟨_, _, e230, hP, _, _, e98, Or.inl ⟨_, e232, _, _, e101, Or.inr ⟨_, _, d234_no g4, rfl⟩⟩⟩), rfl⟩)))
      obtain ⟨s4, v1, v2, v3⟩ := mh (s := σ) (fun _ _ _ _ => rfl)
      obtain ⟨f1, f2⟩ := off (k := 2) v2
      refine op_full2 H (kx := 2) (σ1 := σ) (by decide) H.1 (fun _ _ _ _ => rfl) (fun _ _ _ => rfl) hA ⟨upS s4 682 0 2, 0, v3 ?_, up_s, f1, f2⟩
      rw [if_neg (show ¬ (0 ≤ a3 ∧ a3 < ((d : Nat) : Int) + 1) by omega), if_pos rfl]
      exact mfail (s := s4)
  · -- no such hunk
    have hA := b404 (x3 := a3) (x4 := a4) (x5 := a5) (Or.inr (Or.inl ⟨_, b186 (Or.inl ⟨_, _, e230, hP, _, _, e98, Or.inr ⟨_, _, d232_no g3, rfl⟩⟩), rfl⟩))
    have tail : ∀ (s4 : Sg), (∀ c x, ¬ (700 ≤ c ∧ c ≤ 704) → s4 c x = σ c x) → Dd 304 [vA 682, vI a, vI a2] σ (rI 0 s4) → OpR 404 305 [vA 0, vI a, vI a2, vI a3, vI a4, vI a5, vA 726] [vA 682, vI a, vI a2, vI a3, vI a4, vI a5] σ (c + 1) := by
      intro s4 h4 h5
      obtain ⟨f1, f2⟩ := off (k := 1) h4
      refine op_full2 H (kx := 1) (σ1 := σ) (by decide) H.1 (fun _ _ _ _ => rfl) (fun _ _ _ => rfl) hA ⟨upS s4 682 0 1, 0, b305 ⟨_, _, h5, ?_⟩, up_s, f1, f2⟩
      rw [if_pos rfl]
      refine b305_48 (b305_49 ?_)
      rw [if_pos rfl]
      refine b305_69 ?_
      rw [if_pos rfl]
      exact mx _ _ _ _ _ _ _ _ (by decide)
    by_cases y : 0 ≤ a2
    · obtain ⟨s4, x1, x2, x3⟩ := m280 (s := σ) (fun _ _ _ _ => rfl)
      have z := m304 rfl y x1
      rw [if_neg (by omega)] at z
      exact tail s4 x3 z
    · refine tail σ (fun _ _ _ => rfl) (b304 ⟨_, _, d248_ok (by omega), ?_⟩)
      rw [if_neg (show ¬ (1 : Int) = 0 by decide), if_neg y]
end
