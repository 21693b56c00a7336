/-! merge. -/
noncomputable section
theorem rl_ln {G : Nat → Int} {m x d : Nat} (hG : ∀ i, i < m → isLn (G i) = true) (hd : x + d ≤ m) : ∀ v, v ∈ rlZ G x d → isLn v = true := by
  intro v hv
  obtain ⟨k, hk⟩ := List.mem_iff_getElem?.mp hv
  have hlt := (List.getElem?_eq_some_iff.mp hk).1
  rw [rl_len] at hlt
  rw [rl_get d x k hlt] at hk
  cases hk
  exact hG _ (by omega)
theorem mgF_ln {FA FB X NA NB : Nat → Int} {nb na nc : Nat} {A B : List St} (M : mgD FA FB X NA NB nb na nc A B) (lX : ∀ i, i < nb → isLn (X i) = true) (lA : ∀ i, i < na → isLn (NA i) = true) (lB : ∀ i, i < nc → isLn (NB i) = true) : ∀ (w a b p : Nat), mgI nb A B a b p → ∀ v, v ∈ (mgF X NA NB nb A B w a b p).1 → isLn v = true := by
  obtain ⟨m1, m2, m3, m4, m5, DA, DB, EA, EB⟩ := M
  intro w
  induction w with
  | zero =>
    intro a b p I v hv
    exact rl_ln lX (by have := I.2.2.1; omega) v hv
  | succ w ih =>
    intro a b p I v hv
    by_cases he : a < A.length ∨ b < B.length
    · obtain ⟨lo, hlo⟩ : ∃ lo, lo = min (sO A a) (sO B b) := ⟨_, rfl⟩
      obtain ⟨a', b', hi, hc⟩ : ∃ a' b' hi, clo A B (A.length + B.length) a b lo = (a', b', hi) := ⟨_, _, _, rfl⟩
      obtain ⟨g1, g2, g3, g4, g5, g6, g7, g8, g9, g10, g11, g12, g13, g14, g15, g16, g17⟩ := mg_grp (by omega) DA DB I he hlo hc
      rw [mgF_s he hlo hc] at hv
      have hv : v ∈ rlZ X p (lo - p) ++ ((gpF NA NB A B a b a' b' lo hi).1 ++ (mgF X NA NB nb A B w a' b' hi).1) := hv
      have SA := sd_ok DA EA g4 g5 g12 g14 g2 g11.2.2.2.1 g16
      have SB := sd_ok DB EB g6 g7 g13 g15 g2 g11.2.2.2.2.1 g17
      have hA : ∀ v, v ∈ sdF NA A a a' lo hi → isLn v = true := rl_ln lA (by omega)
      have hB : ∀ v, v ∈ sdF NB B b b' lo hi → isLn v = true := rl_ln lB (by omega)
      rcases List.mem_append.mp hv with h | h
      · exact rl_ln lX (by omega) v h
      · rcases List.mem_append.mp h with h | h
        · unfold gpF at h
          split at h
          · exact hA v h
          · split at h
            · exact hB v h
            · have h : v ∈ 50001 :: (sdF NA A a a' lo hi ++ 50002 :: (sdF NB B b b' lo hi ++ [50003])) := h
              rcases List.mem_cons.mp h with h | h
              · rw [h]; decide
              · rcases List.mem_append.mp h with h | h
                · exact hA v h
                · rcases List.mem_cons.mp h with h | h
                  · rw [h]; decide
                  · rcases List.mem_append.mp h with h | h
                    · exact hB v h
                    · rw [List.mem_singleton.mp h]; decide
        · exact ih a' b' hi g11 v h
    · rw [mgF_e he] at hv
      exact rl_ln lX (by have := I.2.2.1; omega) v hv
/-- merges -/
theorem d331 {s t nb na nc : Nat} {FA FB X X' NA NB : Nat → Int} {σ : Sg} (hs : s < 44) (ht : t < 44) (VA : VF FA nb na) (VB : VF FB nb nc) (M : mgD FA FB X NA NB nb na nc (hks FA nb na) (hks FB nb nc)) (S : Slot σ s nb na X NA FA) (S' : Slot σ t nb nc X' NB FB) (hX : ∀ i, i < nb → X' i = X i) : ∃ s', Dd 331 [vA 682, vI s, vI t] σ (rI ((mgF X NA NB nb (hks FA nb na) (hks FB nb nc) ((hks FA nb na).length + (hks FB nb nc).length) 0 0 0).2 : Nat) s') ∧ MD s' (mgF X NA NB nb (hks FA nb na) (hks FB nb nc) ((hks FA nb na).length + (hks FB nb nc).length) 0 0 0).1 ∧ ∀ c x, ¬ (700 ≤ c ∧ c ≤ 705) → ¬ (c = 682 ∧ x = 32) → s' c x = σ c x := by
  have hM := M
  obtain ⟨m1, m2, m3, m4, m5, DA, DB, EA, EB⟩ := hM
  obtain ⟨t1, t2, t3, t4, t5⟩ := S
  obtain ⟨u1, u2, u3, u4, u5⟩ := S'
  obtain ⟨s1, a1, a2, a3, -, a5⟩ := d280 (s := s) (wh := 0) (f := FA) (σ := σ) hs (by decide) (by omega) (by omega) VA t1 t2 t5
  have f1 : ∀ c x, ¬ (700 ≤ c ∧ c ≤ 704) → s1 c x = σ c x := fun c x h => a5 c x (by omega) (by omega)
  obtain ⟨s2, b1, b2, b3, -, b5⟩ := d280 (s := t) (wh := 1) (f := FB) (σ := s1) ht (by decide) (by omega) (by omega) VB (by rw [f1 _ _ (by omega)]; exact u1) (by rw [f1 _ _ (by omega)]; exact u2) (fun i hi => by rw [f1 _ _ (by omega)]; exact u5 i hi)
  have f2 : ∀ c x, ¬ (700 ≤ c ∧ c ≤ 704) → s2 c x = σ c x := fun c x h => by rw [b5 c x (by omega) (by omega)]; exact f1 c x h
  have f3 : ∀ c x, ¬ (c = 682 ∧ x = 32) → upS s2 682 32 0 c x = s2 c x := fun c x hc => by
    unfold upS
    rw [if_neg hc]
  have PA : PG (upS s2 682 32 0) s 0 nb na X NA (hks FA nb na) := ⟨hs, by omega, m4, m1, m2, fun h q hq => by
    have hlt := (List.getElem?_eq_some_iff.mp hq).1
    have z := a2 h q hq
    rw [show 128 * 0 + (0 + h) = 0 + h by omega] at z
    rw [f3 _ _ (by omega), f3 _ _ (by omega), f3 _ _ (by omega), f3 _ _ (by omega), b5 _ _ (by omega) (by omega), b5 _ _ (by omega) (by omega), b5 _ _ (by omega) (by omega), b5 _ _ (by omega) (by omega)]
    exact z, fun i hi => by rw [f3 _ _ (by omega), f2 _ _ (by omega)]; exact t3 i hi, fun i hi => by rw [f3 _ _ (by omega), f2 _ _ (by omega)]; exact t4 i hi⟩
  have PB : PG (upS s2 682 32 0) t 128 nb nc X NB (hks FB nb nc) := ⟨ht, by omega, m5, m1, m3, fun h q hq => by
    have z := b2 h q hq
    rw [show 128 * 1 + (0 + h) = 128 + h by omega] at z
    rw [f3 _ _ (by omega), f3 _ _ (by omega), f3 _ _ (by omega), f3 _ _ (by omega)]
    exact z, fun i hi => by rw [f3 _ _ (by omega), f2 _ _ (by omega), u3 i hi]; exact hX i hi, fun i hi => by rw [f3 _ _ (by omega), f2 _ _ (by omega)]; exact u4 i hi⟩
  obtain ⟨s', c1, c2, c3⟩ := l331 M ((hks FA nb na).length + (hks FB nb nc).length) 0 0 0 0 [] (upS s2 682 32 0) (by omega) (by omega) (by omega) mgI_0 PA PB (by rw [f3 _ _ (by omega), f2 _ _ (by omega)]; exact t1) ⟨up_s, fun i v h => by simp at h⟩ (by have := mg_bd M; show 0 + _ ≤ 150; omega)
  rw [List.nil_append] at c2
  simp only [Nat.zero_add] at c1
  refine ⟨s', b331 ⟨_, s1, a1, _, s2, b1, by omega, ?_⟩, c2, fun c x y1 y2 => by rw [c3 c x (by omega) y2, f3 c x y2]; exact f2 c x (by omega)⟩
  have z := c1 none none none none none none none none
  rw [show (128 : Int) + (((hks FB nb nc).length : Nat) : Int) = ((128 + (hks FB nb nc).length : Nat) : Int) by omega]
  exact z
theorem l332 {s t nb : Nat} {X X' : Nat → Int} {σ : Sg} (hs : s < 44) (ht : t < 44) (h16 : nb ≤ 100) (h1 : σ 688 s = (nb : Nat)) (hX : ∀ i, i < nb → σ 685 (100 * s + i) = X i) (hX' : ∀ i, i < nb → σ 685 (100 * t + i) = X' i) : ∀ (d k : Nat), k + d = nb → C332_24 s t 1 k σ (rI (WI (∀ x, k ≤ x → x < nb → X x = X' x)) σ) := by
  intro d
  induction d with
  | zero =>
    intro k hk
    refine b332_24 ⟨by omega, ?_⟩
    rw [tn, h1, if_neg (by omega), WI_1 (fun x h1 h2 => absurd h1 (by omega))]
    exact ⟨Or.inr rfl, rfl⟩
  | succ d ih =>
    intro k hk
    refine b332_24 ⟨by omega, ?_⟩
    rw [tn, h1, if_pos (by omega), if_neg (show ¬ (1 : Int) = 0 by decide)]
    refine ⟨by omega, by omega, by omega, by omega, by omega, by omega, ?_⟩
    rw [show (100 * (s : Int) + (k : Int)).toNat = 100 * s + k by omega, show (100 * (t : Int) + (k : Int)).toNat = 100 * t + k by omega, hX k (by omega), hX' k (by omega)]
    refine b332_71 ⟨by omega, ?_⟩
    rw [show (k : Int) + 1 = ((k + 1 : Nat) : Int) by omega]
    by_cases y : X k = X' k
    · rw [if_pos y]
      rw [WI_cg (p := ∀ x, k ≤ x → x < nb → X x = X' x) (q := ∀ x, k + 1 ≤ x → x < nb → X x = X' x) ⟨fun h x h1 h2 => h x (by omega) h2, fun h x h1 h2 => by
        by_cases e : x = k
        · rw [e]; exact y
        · exact h x (by omega) h2⟩]
      exact ih (k + 1) (by omega)
    · rw [if_neg y, WI_0 (fun h => y (h k (Nat.le_refl _) (by omega)))]
      refine b332_24 ⟨by omega, ?_⟩
      rw [tn, h1]
      by_cases y2 : ((k + 1 : Nat) : Int) < (nb : Int)
      · rw [if_pos y2, if_pos rfl]
        exact ⟨Or.inl rfl, rfl⟩
      · rw [if_neg y2]
        exact ⟨Or.inl rfl, rfl⟩
/-- haveSameOld -/
theorem d332 {s t nb nb' : Nat} {X X' : Nat → Int} {σ : Sg} (hs : s < 44) (ht : t < 44) (h16 : nb ≤ 100) (h1 : σ 688 s = (nb : Nat)) (h2 : σ 688 t = (nb' : Nat)) (hX : ∀ i, i < nb → σ 685 (100 * s + i) = X i) (hX' : ∀ i, i < nb' → σ 685 (100 * t + i) = X' i) : Dd 332 [vA 682, vI s, vI t] σ (rI (WI (nb = nb' ∧ ∀ i, i < nb → X i = X' i)) σ) := by
  refine b332 ⟨by omega, by omega, b332_20 ?_⟩
  rw [tn, tn, h1, h2]
  by_cases y : nb = nb'
  · rw [if_pos (by omega)]
    have z := l332 hs ht h16 h1 hX (fun i hi => hX' i (by omega)) nb 0 (by omega)
    rw [WI_cg (p := nb = nb' ∧ ∀ i, i < nb → X i = X' i) (q := ∀ x, 0 ≤ x → x < nb → X x = X' x) ⟨fun h x _ h2 => h.2 x h2, fun h => ⟨y, fun k hk => h k (Nat.zero_le _) hk⟩⟩]
    exact z
  · rw [if_neg (by omega), WI_0 (fun h => y h.1)]
    refine b332_24 ⟨by omega, ?_⟩
    rw [tn, h1]
    by_cases y2 : (0 : Int) < (nb : Int)
    · rw [if_pos y2, if_pos rfl]
      exact ⟨Or.inl rfl, rfl⟩
    · rw [if_neg y2]
      exact ⟨Or.inl rfl, rfl⟩
/-- merge -/
theorem o25 {σ : Sg} {c a1 a2 a3 : Int} (H : Rel c σ) : OpR 414 333 [vA 0, vI a1, vI a2, vI a3, vA 726] [vA 682, vI a1, vI a2, vI a3] σ (c + 1) := by
  by_cases g1 : a1 < 0
  · exact x25_0 H g1
  by_cases g2 : σ 0 3 ≤ a1
  · exact x25_1 H g2
  have k1 : 0 ≤ a1 ∧ a1 < σ 0 3 := by omega
  by_cases g3 : a2 < 0
  · exact x25_2 H k1 g3
  by_cases g4 : σ 0 3 ≤ a2
  · exact x25_3 H k1 g4
  have k2 : 0 ≤ a2 ∧ a2 < σ 0 3 := by omega
  by_cases g5 : a3 < 0
  · exact x25_4 H k1 k2 g5
  by_cases g6 : 4 ≤ a3
  · exact x25_5 H k1 k2 g6
  have k3 : 0 ≤ a3 ∧ a3 < 4 := by omega
  obtain ⟨a, rfl⟩ := Int.eq_ofNat_of_zero_le k1.1
  obtain ⟨b, rfl⟩ := Int.eq_ofNat_of_zero_le k2.1
  obtain ⟨t, rfl⟩ := Int.eq_ofNat_of_zero_le k3.1
  have hn := (rel_n H).1
  have ht4 : t < 4 := by omega
  have ha24 : a < 24 := by omega
  have hb24 : b < 24 := by omega
  obtain ⟨x1, x2⟩ := H.2.2.2.2.1.2.2.2 a k1.2
  obtain ⟨y1, y2⟩ := H.2.2.2.2.1.2.2.2 b k2.2
  obtain ⟨-, -, -, -, -, -, hP, -⟩ := cpP (p := a) ha24
  obtain ⟨-, -, -, -, -, -, hQ, -⟩ := cpP (p := b) hb24
  obtain ⟨nb, na, hb1, hb2, N, S⟩ := po_slot x1 x2 (WF_w H.1 (pat_1 hP)).2.1 (WF_w H.1 (pat_3 hP)).2.1
  obtain ⟨nb', nc, hb3, hb4, N', S'⟩ := po_slot y1 y2 (WF_w H.1 (pat_1 hQ)).2.1 (WF_w H.1 (pat_3 hQ)).2.1
  have hrow := el_1 (i := (t : Int)) k3
  rw [tn] at hrow
  have hct := cp_1 (i := (t : Int)) k3
  rw [tn] at hct
  have e230 : ∀ x : Nat, 0 ≤ (x : Int) ∧ (x : Int) < σ 0 3 → Dd 230 [vA 0, vI x] σ (rA (20 + 13 * x) σ) := fun x hx => by
    have z := d230_ok (σ := σ) (k := (x : Int)) hx (by omega)
    rw [tn] at z
    exact z
  have e227 : Dd 227 [vA 0, vI t] σ (rA (2 + 2 * t) σ) := by
    have z := d227_ok (σ := σ) (t := (t : Int)) k3
    rw [tn] at z
    exact z
  have sm : smP σ (20 + 13 * a + 1) (20 + 13 * b + 1) ↔ nb = nb' ∧ ∀ i, i < nb → σ (20 + 13 * a + 2) i = σ (20 + 13 * b + 2) i := by
    unfold smP
    rw [N.1, N'.1]
    constructor
    · rintro ⟨u1, u2⟩
      exact ⟨by omega, fun i hi => u2 i (by omega)⟩
    · rintro ⟨u1, u2⟩
      exact ⟨by omega, fun i hi => u2 i (by omega)⟩
  -- the reference, up to the merging
  have ref : ∀ (s : Sg) {o : Rs}, (∀ c x, 682 ≤ c → ¬ c = 726 → s c x = σ c x) → (if nb = nb' ∧ ∀ i, i < nb → σ (20 + 13 * a + 2) i = σ (20 + 13 * b + 2) i then (∃ (v2 : Int) (s1 : Sg), Dd 331 [vA 682, vI a, vI b] s (rI v2 s1) ∧ C333_66 (some (vI a)) (some (vI b)) t 1 1 none v2 s1 o) else C333_66 (some (vI a)) (some (vI b)) t 1 0 none 0 s o) → Dd 333 [vA 682, vI a, vI b, vI t] s o := by
    intro s o hs hh
    have S2 := Slot_fr (fun c k h => hs c k (by omega) (by omega)) S
    have S2' := Slot_fr (fun c k h => hs c k (by omega) (by omega)) S'
    have e332 := d332 (σ := s) (s := a) (t := b) (nb := nb) (nb' := nb') (X := σ (20 + 13 * a + 2)) (X' := σ (20 + 13 * b + 2)) (by omega) (by omega) (by omega) S2.1 S2'.1 S2.2.2.1 S2'.2.2.1
    refine b333 ⟨1, _, d248_ok ⟨by omega, by rw [hs _ _ (by omega) (by omega)]; omega⟩, ?_⟩
    rw [if_neg (show ¬ (1 : Int) = 0 by decide)]
    refine ⟨1, _, d248_ok ⟨by omega, by rw [hs _ _ (by omega) (by omega)]; omega⟩, ?_⟩
    rw [if_neg (show ¬ (1 : Int) = 0 by decide)]
    refine ⟨1, _, d247_ok k3, ?_⟩
    rw [if_neg (show ¬ (1 : Int) = 0 by decide)]
    refine b333_28 ?_
    rw [if_neg (show ¬ (1 : Int) = 0 by decide)]
    refine ⟨_, _, e332, ?_⟩
    by_cases y : nb = nb' ∧ ∀ i, i < nb → σ (20 + 13 * a + 2) i = σ (20 + 13 * b + 2) i
    · rw [if_pos y] at hh
      rw [WI_1 y, if_neg (show ¬ (1 : Int) = 0 by decide)]
      refine b333_49 ?_
      rw [if_neg (show ¬ (1 : Int) = 0 by decide)]
      exact hh
    · rw [if_neg y] at hh
      rw [WI_0 y, if_pos rfl]
      refine b333_48 (b333_49 ?_)
      rw [if_pos rfl]
      exact hh
  by_cases E : smP σ (20 + 13 * a + 1) (20 + 13 * b + 1)
  · obtain ⟨en, eX⟩ := sm.mp E
    subst en
    have V := N.2.2.2.2.1
    have V' := N'.2.2.2.2.1
    have l1 := hks_len V
    have l2 := hks_len V'
    have M : mgD (σ (20 + 13 * a + 6)) (σ (20 + 13 * b + 6)) (σ (20 + 13 * a + 2)) (σ (20 + 13 * a + 4)) (σ (20 + 13 * b + 4)) nb na nc (hks (σ (20 + 13 * a + 6)) nb na) (hks (σ (20 + 13 * b + 6)) nb nc) := ⟨hb1, hb2, hb4, by omega, by omega, DS_0 V, DS_0 V', fun i hi e => GDg N x2 i hi e, fun i hi e => by rw [eX i hi]; exact GDg N' y2 i hi e⟩
    have C : mgC σ (20 + 13 * a) (20 + 13 * b) nb na nc (σ (20 + 13 * a + 2)) (σ (20 + 13 * a + 4)) (σ (20 + 13 * b + 4)) (hks (σ (20 + 13 * a + 6)) nb na) (hks (σ (20 + 13 * b + 6)) nb nc) := ⟨H.1, PC_of N (by omega) (by omega), PC_of N' (by omega) (by omega), ⟨WF_w H.1 (pat_1 hP), N.1, fun _ _ => rfl⟩, ⟨WF_w H.1 (pat_3 hP), N.2.1, fun _ _ => rfl⟩, ⟨WF_w H.1 (pat_3 hQ), N'.2.1, fun _ _ => rfl⟩⟩
    obtain ⟨s, c1, c2, c3, c4⟩ := d76 hP hQ (by omega) (by omega) M C
    have bd := mg_bd M
    have lnM := mgF_ln M (fun i hi => x2.2.2.2.2.2.2.2.1 i (by rw [N.1]; omega)) (fun i hi => x2.2.2.2.2.2.2.2.2.1 i (by rw [N.2.1]; omega)) (fun i hi => y2.2.2.2.2.2.2.2.2.1 i (by rw [N'.2.1]; omega)) ((hks (σ (20 + 13 * a + 6)) nb na).length + (hks (σ (20 + 13 * b + 6)) nb nc).length) 0 0 0 mgI_0
    have e331 := fun (s0 : Sg) (hs : ∀ c x, 682 ≤ c → ¬ c = 726 → s0 c x = σ c x) => d331 (σ := s0) (s := a) (t := b) (by omega) (by omega) V V' M (Slot_fr (fun c k h => hs c k (by omega) (by omega)) S) (Slot_fr (fun c k h => hs c k (by omega) (by omega)) S') (fun i hi => (eX i hi).symm)
    obtain ⟨mm, hmm⟩ : ∃ mm, mm = mgF (σ (20 + 13 * a + 2)) (σ (20 + 13 * a + 4)) (σ (20 + 13 * b + 4)) nb (hks (σ (20 + 13 * a + 6)) nb na) (hks (σ (20 + 13 * b + 6)) nb nc) ((hks (σ (20 + 13 * a + 6)) nb na).length + (hks (σ (20 + 13 * b + 6)) nb nc).length) 0 0 0 := ⟨_, rfl⟩
    rw [← hmm] at c1 c2 bd lnM e331
    have e156 := d156_t (WF_w H.1 (pat_1 hP)) (WF_w H.1 (pat_1 hQ)) E
    have e146 := d146 (σ := s) rw400.1
    rw [c2.1] at e146
    by_cases g7 : 16 < mm.1.length
    · have hA := b414 (x1 := (a : Int)) (x2 := (b : Int)) (x3 := (t : Int)) (Or.inr (Or.inr ⟨s, b197 (Or.inl ⟨_, _, e230 a k1, hP, Or.inl ⟨_, _, e230 b k2, hQ, Or.inl ⟨_, _, e227, hrow.2, 1, σ, e156, by
        rw [if_neg (show ¬ (1 : Int) = 0 by decide)]
        refine ⟨_, s, c1, _, _, e146, ?_⟩
        rw [if_pos (by omega)]⟩⟩⟩), rfl⟩))
      obtain ⟨s1, r1, r2, r3⟩ := e331 s (fun c x h _ => c4 c x (by omega))
      refine op_full2 H (kx := 2) (σ1 := s) (by decide) c3 (fun x k h h' => by unfold KP at h'; exact c4 x k (by omega)) (fun x k h => c4 x k (by omega)) hA ⟨upS s1 682 0 2, 0, ref s (fun c x h _ => c4 c x (by omega)) ?_, up_s, fun x k h => ?_, fun x k h h' h2 h3 => ?_⟩
      · rw [if_pos ⟨rfl, eX⟩]
        refine ⟨_, s1, r1, b333_66 ?_⟩
        rw [if_neg (show ¬ (1 : Int) = 0 by decide), if_neg (show ¬ (1 : Int) = 0 by decide), r2.1, if_pos (by omega)]
        refine b333_92 (b333_97 ⟨_, _, d245, ?_⟩)
        rw [if_neg (show ¬ (2 : Int) = 0 by decide), if_pos rfl]
      · rw [up_a (by omega)]
        exact r3 x k (by omega) (by omega)
      · unfold KP at h'
        have : upS s1 682 0 2 x k = s1 x k := by unfold upS; rw [if_neg (by omega)]
        rw [this, r3 x k (by omega) (by omega)]
        exact c4 x k (by omega)
    · have q4 := rw400
      have d1 := d155 (σ := s) (a := 2 + 2 * t) (b := 400) hrow.2 (WF_w c3 q4.1)
      have cc : s 400 1 ≤ (cap (2 + 2 * t) : Int) := by rw [c2.1]; omega
      obtain ⟨s3, hs3⟩ : ∃ s3, s3 = bcS s (2 + 2 * t) 400 := ⟨_, rfl⟩
      rw [← hs3] at d1
      have R3 : Rw s3 (2 + 2 * t) mm.1 := ⟨by rw [hs3, bc_sz cc]; exact c2.1, fun i v h => by
        have hi := (List.getElem?_eq_some_iff.mp h).1
        rw [hs3, bc_val cc (by omega) (by rw [c2.1]; omega)]
        exact c2.2 i v h⟩
      have f3 : ∀ c x, ¬ c = 2 + 2 * t → ¬ c = 2 + 2 * t + 1 → s3 c x = s c x := fun c x h h' => by rw [hs3]; exact bc_off h h'
      have w3 : WF s3 := WF_row (r := 2 + 2 * t) (fun b hb hn => f3 b 1 hn (fun e => by subst e; exact row_nx hrow.2 hb rfl)) (by rw [R3.1]; omega) c3
      obtain ⟨v, hv⟩ : ∃ v : Int, v = (mm.2 : Nat) := ⟨_, rfl⟩
      have hA := b414 (x1 := (a : Int)) (x2 := (b : Int)) (x3 := (t : Int)) (Or.inl ⟨v, s3, b197 (Or.inl ⟨_, _, e230 a k1, hP, Or.inl ⟨_, _, e230 b k2, hQ, Or.inl ⟨_, _, e227, hrow.2, 1, σ, e156, by
        rw [if_neg (show ¬ (1 : Int) = 0 by decide)]
        refine ⟨_, s, c1, _, _, e146, ?_⟩
        rw [if_neg (by omega)]
        exact ⟨s3, d1, by rw [hv]⟩⟩⟩⟩), rfl⟩)
      have lo : ∀ c x, 682 ≤ c → ¬ c = 726 → upS s3 726 0 v c x = σ c x := fun c x h h' => by rw [up_a h', f3 c x (by omega) (by omega)]; exact c4 c x (by omega)
      obtain ⟨s1, r1, r2, r3⟩ := e331 (upS s3 726 0 v) lo
      have f0 : ∀ c x, ¬ (c = 682 ∧ x = 0) → upS s1 682 0 0 c x = s1 c x := fun c x hc => by
        unfold upS
        rw [if_neg hc]
      obtain ⟨s4, p1, p2, p3, p4⟩ := d325m (σ := upS s1 682 0 0) ht4 (by omega) (MD_fr (f0 _ _ (by omega)) (fun i => f0 _ _ (by omega)) r2)
      have hB : Dd 333 [vA 682, vI a, vI b, vI t] (upS s3 726 0 v) (rI v s4) := ref _ lo (by
        rw [if_pos ⟨rfl, eX⟩]
        refine ⟨_, s1, r1, b333_66 ?_⟩
        rw [if_neg (show ¬ (1 : Int) = 0 by decide), if_neg (show ¬ (1 : Int) = 0 by decide), r2.1, if_neg (by omega)]
        refine b333_97 ⟨_, _, d245, ?_⟩
        rw [if_pos rfl, if_neg (show ¬ (1 : Int) = 0 by decide), ← hv]
        exact ⟨s4, p1, rfl⟩)
      have fin : ∀ c x, ¬ (700 ≤ c ∧ c ≤ 705) → ¬ (c = 682 ∧ (x = 0 ∨ x = 32)) → ¬ c = 683 → ¬ c = 684 → s4 c x = upS s3 726 0 v c x := fun c x y1 y2 y3 y4 => by
        rw [p4 c x (by omega) (by omega), f0 c x (by omega)]
        exact r3 c x (by omega) (by omega)
      have lowf : ∀ c x, c < 682 → s4 c x = s3 c x := fun c x h => by rw [fin c x (by omega) (by omega) (by omega) (by omega), up_a (by omega)]
      have tx : ∀ x, x < 4 → σ (2 + 2 * x) 1 ≤ 16 := fun x hx => by
        have z := (rel_t H (t := (x : Int)) (by omega)).2.2
        rw [tn] at z
        exact z
      have i4 : ∀ c x, c = 683 ∨ c = 684 → upS s1 682 0 0 c x = σ c x := fun c x h => by rw [f0 c x (by omega), r3 c x (by omega) (by omega)]; exact lo c x (by omega) (by omega)
      have hRT : RT s4 := RT_1 ht4 H.2.2.1 tx (Rw_fr (lowf _ _ (by omega)) (fun i => lowf _ _ (by omega)) R3) p2 p3 lnM (fun c k y1 y2 y3 => by rw [lowf c k (by omega), f3 c k y2 y3]; exact c4 c k (by omega)) (fun x hx => by rw [p4 _ _ (by omega) (by omega)]; exact i4 _ _ (Or.inr rfl)) (fun x hx => by rw [p4 _ _ (by omega) (by omega)]; exact i4 _ _ (Or.inl rfl))
      have oth : ∀ c x, (c < 682 → ¬ (2 ≤ c ∧ c ≤ 9) ∧ ¬ (399 ≤ c ∧ c ≤ 401)) → ¬ (700 ≤ c ∧ c ≤ 705) → ¬ (c = 682 ∧ (x = 0 ∨ x = 32)) → ¬ c = 683 → ¬ c = 684 → ¬ c = 726 → s4 c x = σ c x := fun c x y1 y2 y3 y4 y5 y6 => by
        by_cases y : c < 682
        · obtain ⟨z1, z2⟩ := y1 y
          rw [lowf c x y, f3 c x (by omega) (by omega)]
          exact c4 c x z2
        · rw [fin c x y2 y3 y4 y5]
          exact lo c x (by omega) y6
      have hRU : RU s4 := RU_fr (fun c k hc => oth c k (by omega) (by omega) (by omega) (by omega) (by omega) (by omega)) H.2.2.2.2.2.2.1
      refine op_fin hA hB ?_ (fun _ => ?_) (fun x k h => by rw [up_a (by omega), f3 x k (by omega) (by omega)]; exact c4 x k (by omega)) (fun x k h => oth x k (by omega) (by omega) (by omega) (by omega) (by omega) (by omega)) (Rel_TU (by omega) (WF_fr lowf w3) hRT hRU (fun x k h y1 y2 y3 y4 y5 y6 y7 y8 => ?_) H)
      · rw [p4 _ _ (by omega) (by omega)]
        exact up_s
      · rw [fin _ _ (by omega) (by omega) (by omega) (by omega)]
        exact up_s
      · unfold KP at h
        exact oth x k (by omega) (by omega) (by omega) (by omega) (by omega) (by omega)
  · -- their old texts are not the same
    have e156 := d156_f (WF_w H.1 (pat_1 hP)) (WF_w H.1 (pat_1 hQ)) E
    have hA := b414 (x1 := (a : Int)) (x2 := (b : Int)) (x3 := (t : Int)) (Or.inr (Or.inr ⟨σ, b197 (Or.inl ⟨_, _, e230 a k1, hP, Or.inl ⟨_, _, e230 b k2, hQ, Or.inl ⟨_, _, e227, hrow.2, 0, σ, e156, by rw [if_pos rfl]⟩⟩⟩), rfl⟩))
    have hB : Dd 333 [vA 682, vI a, vI b, vI t] σ (rI 0 (upS σ 682 0 2)) := by
      refine ref σ (fun _ _ _ _ => rfl) ?_
      rw [if_neg (fun e => E (sm.mpr e))]
      refine b333_66 ?_
      rw [if_neg (show ¬ (1 : Int) = 0 by decide), if_pos rfl]
      refine b333_92 (b333_97 ⟨_, _, d245, ?_⟩)
      rw [if_neg (show ¬ (2 : Int) = 0 by decide), if_pos rfl]
    exact op_x (kx := 2) H (by decide) hA hB
end
