/-! Two patches merged: the class's side. -/
noncomputable section
theorem sd_ok {F X N : Nat → Int} {nb na a a' lo hi : Nat} {l : List St} (D : DS F nb na l 0 0 0) (E : EQL X N F nb) (h1 : a ≤ a') (h2 : a' ≤ l.length) (h3 : peo l a 0 ≤ lo) (h4 : lo ≤ gnd nb l a) (h5 : lo ≤ hi) (h6 : peo l a' 0 ≤ hi) (h7 : hi ≤ gnd nb l a') : asF X N ((l.drop a).take (a' - a)) lo hi = sdF N l a a' lo hi ∧ npF l a lo ≤ npF l a' hi ∧ npF l a' hi ≤ na ∧ ((npF l a lo : Nat) : Int) = (lo : Int) + dft l a ∧ ((npF l a' hi : Nat) : Int) = (hi : Int) + dft l a' := by
  have e : a + (a' - a) = a' := by omega
  have z := asF_eq D E (hi := hi) (a' - a) a lo (by omega) h3 (fun hd => by
    obtain ⟨q, hq⟩ : ∃ q, l[a]? = some q := ⟨_, List.getElem?_eq_getElem (by omega)⟩
    rw [sO_s hq]
    unfold gnd at h4
    rw [hq] at h4
    exact h4) (fun _ => h5) (by rw [e]; exact h6) (by rw [e]; exact h7)
  rw [e] at z
  exact ⟨z.1, z.2, (np_b D h2 h6 h7).2, (np_b D (by omega) h3 h4).1, (np_b D h2 h6 h7).1⟩
theorem sd_len {N : Nat → Int} {l : List St} {a a' lo hi : Nat} : (sdF N l a a' lo hi).length = npF l a' hi - npF l a lo := rl_len _ _
theorem gp_len {NA NB : Nat → Int} {A B : List St} {a b a' b' lo hi : Nat} (h : a ≤ a') : (gpF NA NB A B a b a' b' lo hi).1.length ≤ (npF A a' hi - npF A a lo) + (npF B b' hi - npF B b lo) + 3 * (a' - a) := by
  unfold gpF
  by_cases y : b' = b ∨ (a' = a + 1 ∧ b' = b + 1 ∧ saP NA NB A B a b)
  · rw [if_pos y]
    show (sdF NA A a a' lo hi).length ≤ _
    rw [sd_len]
    omega
  · rw [if_neg y]
    by_cases y2 : a' = a
    · rw [if_pos y2]
      show (sdF NB B b b' lo hi).length ≤ _
      rw [sd_len]
      omega
    · rw [if_neg y2]
      show (50001 :: (sdF NA A a a' lo hi ++ 50002 :: (sdF NB B b b' lo hi ++ [50003]))).length ≤ _
      rw [List.length_cons, List.length_append, List.length_cons, List.length_append, List.length_singleton, sd_len, sd_len]
      omega
theorem mgF_s {X NA NB : Nat → Int} {nb : Nat} {A B : List St} {w a b p lo a' b' hi : Nat} (he : a < A.length ∨ b < B.length) (hlo : lo = min (sO A a) (sO B b)) (hc : clo A B (A.length + B.length) a b lo = (a', b', hi)) : mgF X NA NB nb A B (w + 1) a b p = (rlZ X p (lo - p) ++ ((gpF NA NB A B a b a' b' lo hi).1 ++ (mgF X NA NB nb A B w a' b' hi).1), (gpF NA NB A B a b a' b' lo hi).2 + (mgF X NA NB nb A B w a' b' hi).2) := by
  have e : mgF X NA NB nb A B (w + 1) a b p = if a < A.length ∨ b < B.length then
      (rlZ X p (min (sO A a) (sO B b) - p) ++ ((gpF NA NB A B a b (clo A B (A.length + B.length) a b (min (sO A a) (sO B b))).1 (clo A B (A.length + B.length) a b (min (sO A a) (sO B b))).2.1 (min (sO A a) (sO B b)) (clo A B (A.length + B.length) a b (min (sO A a) (sO B b))).2.2).1 ++ (mgF X NA NB nb A B w (clo A B (A.length + B.length) a b (min (sO A a) (sO B b))).1 (clo A B (A.length + B.length) a b (min (sO A a) (sO B b))).2.1 (clo A B (A.length + B.length) a b (min (sO A a) (sO B b))).2.2).1), (gpF NA NB A B a b (clo A B (A.length + B.length) a b (min (sO A a) (sO B b))).1 (clo A B (A.length + B.length) a b (min (sO A a) (sO B b))).2.1 (min (sO A a) (sO B b)) (clo A B (A.length + B.length) a b (min (sO A a) (sO B b))).2.2).2 + (mgF X NA NB nb A B w (clo A B (A.length + B.length) a b (min (sO A a) (sO B b))).1 (clo A B (A.length + B.length) a b (min (sO A a) (sO B b))).2.1 (clo A B (A.length + B.length) a b (min (sO A a) (sO B b))).2.2).2)
    else (rlZ X p (nb - p), 0) := rfl
  rw [e, if_pos he, ← hlo, hc]
theorem mgF_e {X NA NB : Nat → Int} {nb : Nat} {A B : List St} {w a b p : Nat} (he : ¬ (a < A.length ∨ b < B.length)) : mgF X NA NB nb A B w a b p = (rlZ X p (nb - p), 0) := by
  cases w with
  | zero => rfl
  | succ w => exact if_neg he
/-- what both patches are, purely -/
def mgD (FA FB X NA NB : Nat → Int) (nb na nc : Nat) (A B : List St) : Prop := nb ≤ 16 ∧ na ≤ 16 ∧ nc ≤ 16 ∧ A.length ≤ 17 ∧ B.length ≤ 17 ∧ DS FA nb na A 0 0 0 ∧ DS FB nb nc B 0 0 0 ∧ EQL X NA FA nb ∧ EQL X NB FB nb
theorem mgF_len {FA FB X NA NB : Nat → Int} {nb na nc : Nat} {A B : List St} (M : mgD FA FB X NA NB nb na nc A B) : ∀ (w a b p : Nat), (A.length - a) + (B.length - b) ≤ w → mgI nb A B a b p → (mgF X NA NB nb A B w a b p).1.length ≤ (na - npF A a p) + (nc - npF B b p) + 3 * (A.length - a) := by
  obtain ⟨m1, m2, m3, m4, m5, DA, DB, EA, EB⟩ := M
  intro w
  have fin : ∀ (w a b p : Nat), mgI nb A B a b p → ¬ (a < A.length ∨ b < B.length) → (mgF X NA NB nb A B w a b p).1.length ≤ (na - npF A a p) + (nc - npF B b p) + 3 * (A.length - a) := fun w a b p I he => by
    obtain ⟨i1, i2, i3, i4, i5, i6, i7⟩ := I
    rw [mgF_e he]
    show (rlZ X p (nb - p)).length ≤ _
    rw [rl_len]
    have ea : a = A.length := by omega
    have g : gnd nb A a = nb := by unfold gnd; rw [List.getElem?_eq_none (by omega)]
    have e1 := (np_b DA i1 i4 (by rw [g]; exact i3)).1
    have e2 := dft_e DA
    rw [← ea] at e2
    omega
  induction w with
  | zero =>
    intro a b p h1 I
    exact fin 0 a b p I (by omega)
  | succ w ih =>
    intro a b p h1 I
    by_cases he : a < A.length ∨ b < B.length
    · obtain ⟨lo, hlo⟩ : ∃ lo, lo = min (sO A a) (sO B b) := ⟨_, rfl⟩
      obtain ⟨a', b', hi, hc⟩ : ∃ a' b' hi, clo A B (A.length + B.length) a b lo = (a', b', hi) := ⟨_, _, _, rfl⟩
      obtain ⟨g1, g2, g3, g4, g5, g6, g7, g8, g9, g10, g11, g12, g13, g14, g15, g16, g17⟩ := mg_grp (by omega) DA DB I he hlo hc
      rw [mgF_s he hlo hc]
      show (rlZ X p (lo - p) ++ ((gpF NA NB A B a b a' b' lo hi).1 ++ (mgF X NA NB nb A B w a' b' hi).1)).length ≤ _
      rw [List.length_append, List.length_append, rl_len]
      have k1 := ih a' b' hi (by omega) g11
      have k2 := gp_len (NA := NA) (NB := NB) (A := A) (B := B) (a := a) (b := b) (a' := a') (b' := b') (lo := lo) (hi := hi) g4
      have sA := sd_ok DA EA g4 g5 g12 g14 g2 g11.2.2.2.1 g16
      have sB := sd_ok DB EB g6 g7 g13 g15 g2 g11.2.2.2.2.1 g17
      have pA := (np_b DA I.1 I.2.2.2.1 (by omega)).1
      have pB := (np_b DB I.2.1 I.2.2.2.2.1 (by omega)).1
      omega
    · exact fin (w + 1) a b p I he
/-- what the class's side reads -/
def mgC (σ : Sg) (P Q nb na nc : Nat) (X NA NB : Nat → Int) (A B : List St) : Prop := WF σ ∧ PC σ P A ∧ PC σ Q B ∧ RV σ (P + 1) nb X ∧ RV σ (P + 3) na NA ∧ RV σ (Q + 3) nc NB
theorem mgC_fr {σ s : Sg} {P Q nb na nc : Nat} {X NA NB : Nat → Int} {A B : List St} (hP : P + 12 < 399) (hQ : Q + 12 < 399) (w : WF s) (h : ∀ c k, c < 399 → s c k = σ c k) (C : mgC σ P Q nb na nc X NA NB A B) : mgC s P Q nb na nc X NA NB A B := by
  obtain ⟨c1, c2, c3, c4, c5, c6⟩ := C
  exact ⟨w, PC_f9 (fun c k hc => h c k (by omega)) c2, PC_f9 (fun c k hc => h c k (by omega)) c3, RV_fr (fun k => h _ k (by omega)) (fun k => h _ k (by omega)) c4, RV_fr (fun k => h _ k (by omega)) (fun k => h _ k (by omega)) c5, RV_fr (fun k => h _ k (by omega)) (fun k => h _ k (by omega)) c6⟩
theorem rw400 : isRow 400 = true ∧ cap 400 = 96 ∧ isRow 399 = false := by decide +kernel
theorem WF_400 {σ s : Sg} {L : List Int} (w : WF σ) (h : ∀ c k, ¬ c = 400 → ¬ c = 401 → s c k = σ c k) (R : Rw s 400 L) (hl : L.length ≤ 96) : WF s := by
  have q := rw400
  exact WF_row (r := 400) (fun b hb hn => h b 1 hn (fun e => by subst e; exact row_nx q.1 hb rfl)) (by rw [R.1]; omega) w
theorem WF_399 {σ s : Sg} (w : WF σ) (h : ∀ c k, ¬ c = 399 → s c k = σ c k) : WF s := by
  intro b hb
  have q := rw400
  rw [h b 1 (fun e => by subst e; rw [hb] at q; exact absurd q.2.2 (by decide))]
  exact w b hb
theorem d78 {σ : Sg} {P h : Nat} {l : List St} (hP : isPatch P = true) (w : wR σ (P + 9)) (C : PC σ P l) : Dd 78 [vA P, vI h] σ (rI (sO l h : Nat) σ) := by
  have e0 := d98' hP C
  refine b78 hP ⟨_, _, e0, ?_⟩
  by_cases y : h < l.length
  · obtain ⟨q, hq⟩ : ∃ q, l[h]? = some q := ⟨_, List.getElem?_eq_getElem y⟩
    rw [if_pos (by omega), sO_s hq]
    exact ⟨_, _, (pc_at hP w C hq).1, rfl⟩
  · rw [if_neg (by omega), sO_n (by omega)]
    rfl
theorem l77 {P Q nb na nc : Nat} {X NA NB : Nat → Int} {A B : List St} (hP : isPatch P = true) (hQ : isPatch Q = true) (hPl : P + 12 < 399) (hQl : Q + 12 < 399) (hn : A.length ≤ 17 ∧ B.length ≤ 17) : ∀ (d k a b h : Nat) (σ : Sg), k + d = A.length + B.length → mgC σ P Q nb na nc X NA NB A B → σ 399 4 = (a : Nat) → σ 399 6 = (b : Nat) → σ 399 2 = (h : Nat) → h ≤ 100 → ∃ s, C77_60 P Q ((A.length + B.length : Nat) : Int) k σ (rV s) ∧ s 399 4 = ((clo A B d a b h).1 : Nat) ∧ s 399 6 = ((clo A B d a b h).2.1 : Nat) ∧ s 399 2 = ((clo A B d a b h).2.2 : Nat) ∧ ∀ c x, ¬ (c = 399 ∧ (x = 2 ∨ x = 4 ∨ x = 6)) → s c x = σ c x := by
  intro d
  induction d with
  | zero =>
    intro k a b h σ hk C h4 h6 h2 h100
    refine ⟨σ, b77_60 hP hQ ?_, h4, h6, h2, fun _ _ _ => rfl⟩
    rw [if_neg (by omega)]
  | succ d ih =>
    intro k a b h σ hk C h4 h6 h2 h100
    have hC := C
    obtain ⟨w, c2, c3, c4, c5, c6⟩ := hC
    have e1 := d78 (h := a) hP (WF_w w (pat_9 hP)) c2
    have e2 := d78 (h := b) hQ (WF_w w (pat_9 hQ)) c3
    have fr : ∀ (s : Sg) (x : Nat) (v : Int) (y : Nat) (v' : Int) (c z : Nat), ¬ (c = 399 ∧ (z = x ∨ z = y)) → upS (upS s 399 x v) 399 y v' c z = s c z := fun s x v y v' c z hc => by
      unfold upS
      rw [if_neg (fun e => hc ⟨e.1, Or.inr e.2⟩), if_neg (fun e => hc ⟨e.1, Or.inl e.2⟩)]
    by_cases y1 : sO A a ≤ h
    · have l1 := sO_lt h100 y1
      obtain ⟨q, hq⟩ : ∃ q, A[a]? = some q := ⟨_, List.getElem?_eq_getElem l1⟩
      obtain ⟨-, e3, -, -⟩ := pc_at hP (WF_w w (pat_9 hP)) c2 hq
      have bq := c2.2.2 a q hq
      have em : (if σ 399 2 < ((q.1 + q.2.1 : Nat) : Int) then ((q.1 + q.2.1 : Nat) : Int) else σ 399 2) = ((max h (eO A a) : Nat) : Int) := by
        rw [h2, eO_s hq]
        by_cases z : (h : Int) < ((q.1 + q.2.1 : Nat) : Int)
        · rw [if_pos z]; omega
        · rw [if_neg z]; omega
      obtain ⟨s1, hs1⟩ : ∃ s1, s1 = upS (upS σ 399 2 ((max h (eO A a) : Nat) : Int)) 399 4 (upS σ 399 2 ((max h (eO A a) : Nat) : Int) 399 4 + 1) := ⟨_, rfl⟩
      have f1 : ∀ c x, ¬ (c = 399 ∧ (x = 2 ∨ x = 4)) → s1 c x = σ c x := fun c x hc => by rw [hs1]; exact fr _ _ _ _ _ _ _ hc
      have g4 : s1 399 4 = ((a + 1 : Nat) : Int) := by rw [hs1, up_s, up_k (by decide), h4]; omega
      have g2 : s1 399 2 = ((max h (eO A a) : Nat) : Int) := by rw [hs1, up_k (by decide), up_s]
      obtain ⟨s, a1, a2, a3, a4, a5⟩ := ih (k + 1) (a + 1) b (max h (eO A a)) s1 (by omega) (mgC_fr hPl hQl (WF_399 w (fun c x hc => f1 c x (by omega))) (fun c x hc => f1 c x (by omega)) C) g4 (by rw [f1 _ _ (by omega)]; exact h6) g2 (by rw [eO_s hq]; omega)
      rw [clo_A y1]
      refine ⟨s, b77_60 hP hQ ?_, a2, a3, a4, fun c x hc => by rw [a5 c x hc]; exact f1 c x (by omega)⟩
      rw [if_pos (by omega), h4]
      refine ⟨_, _, e1, ?_⟩
      rw [h2, if_pos (by omega), h4]
      refine ⟨_, _, e3, ?_⟩
      rw [h2] at em
      rw [em, ← hs1]
      refine ⟨by rw [up_k (by decide), h4]; omega, b77_157 ⟨by omega, ?_⟩⟩
      rw [show (k : Int) + 1 = ((k + 1 : Nat) : Int) by omega]
      exact a1
    by_cases y2 : sO B b ≤ h
    · have l1 := sO_lt h100 y2
      obtain ⟨q, hq⟩ : ∃ q, B[b]? = some q := ⟨_, List.getElem?_eq_getElem l1⟩
      obtain ⟨-, e3, -, -⟩ := pc_at hQ (WF_w w (pat_9 hQ)) c3 hq
      have bq := c3.2.2 b q hq
      have em : (if (h : Int) < ((q.1 + q.2.1 : Nat) : Int) then ((q.1 + q.2.1 : Nat) : Int) else (h : Int)) = ((max h (eO B b) : Nat) : Int) := by
        rw [eO_s hq]
        by_cases z : (h : Int) < ((q.1 + q.2.1 : Nat) : Int)
        · rw [if_pos z]; omega
        · rw [if_neg z]; omega
      obtain ⟨s1, hs1⟩ : ∃ s1, s1 = upS (upS σ 399 2 ((max h (eO B b) : Nat) : Int)) 399 6 (upS σ 399 2 ((max h (eO B b) : Nat) : Int) 399 6 + 1) := ⟨_, rfl⟩
      have f1 : ∀ c x, ¬ (c = 399 ∧ (x = 2 ∨ x = 6)) → s1 c x = σ c x := fun c x hc => by rw [hs1]; exact fr _ _ _ _ _ _ _ hc
      have g6 : s1 399 6 = ((b + 1 : Nat) : Int) := by rw [hs1, up_s, up_k (by decide), h6]; omega
      have g2 : s1 399 2 = ((max h (eO B b) : Nat) : Int) := by rw [hs1, up_k (by decide), up_s]
      obtain ⟨s, a1, a2, a3, a4, a5⟩ := ih (k + 1) a (b + 1) (max h (eO B b)) s1 (by omega) (mgC_fr hPl hQl (WF_399 w (fun c x hc => f1 c x (by omega))) (fun c x hc => f1 c x (by omega)) C) (by rw [f1 _ _ (by omega)]; exact h4) g6 g2 (by rw [eO_s hq]; omega)
      rw [clo_B y1 y2]
      refine ⟨s, b77_60 hP hQ ?_, a2, a3, a4, fun c x hc => by rw [a5 c x hc]; exact f1 c x (by omega)⟩
      rw [if_pos (by omega), h4]
      refine ⟨_, _, e1, ?_⟩
      rw [h2, if_neg (by omega), h6]
      refine ⟨_, _, e2, ?_⟩
      rw [h2, if_pos (by omega), h6]
      refine ⟨_, _, e3, ?_⟩
      rw [em, ← hs1]
      refine ⟨by rw [up_k (by decide), h6]; omega, b77_157 ⟨by omega, ?_⟩⟩
      rw [show (k : Int) + 1 = ((k + 1 : Nat) : Int) by omega]
      exact a1
    · obtain ⟨s, a1, a2, a3, a4, a5⟩ := ih (k + 1) a b h σ (by omega) C h4 h6 h2 h100
      rw [clo_n y1 y2] at a2 a3 a4 ⊢
      refine ⟨s, b77_60 hP hQ ?_, a2, a3, a4, a5⟩
      rw [if_pos (by omega), h4]
      refine ⟨_, _, e1, ?_⟩
      rw [h2, if_neg (by omega), h6]
      refine ⟨_, _, e2, ?_⟩
      rw [h2, if_neg (by omega)]
      refine b77_157 ⟨by omega, ?_⟩
      rw [show (k : Int) + 1 = ((k + 1 : Nat) : Int) by omega]
      exact a1
/-- findGroup -/
theorem d77 {P Q nb na nc a b lo a' b' hi : Nat} {X NA NB : Nat → Int} {A B : List St} {σ : Sg} (hP : isPatch P = true) (hQ : isPatch Q = true) (hPl : P + 12 < 399) (hQl : Q + 12 < 399) (hn : A.length ≤ 17 ∧ B.length ≤ 17) (C : mgC σ P Q nb na nc X NA NB A B) (h4 : σ 399 4 = (a : Nat)) (h6 : σ 399 6 = (b : Nat)) (hlo : lo = min (sO A a) (sO B b)) (hl : lo ≤ 100) (hc : clo A B (A.length + B.length) a b lo = (a', b', hi)) : ∃ s, Dd 77 [vA 399, vA P, vA Q] σ (rV s) ∧ s 399 1 = (lo : Nat) ∧ s 399 2 = (hi : Nat) ∧ s 399 3 = (a : Nat) ∧ s 399 4 = (a' : Nat) ∧ s 399 5 = (b : Nat) ∧ s 399 6 = (b' : Nat) ∧ ∀ c x, ¬ c = 399 → s c x = σ c x := by
  obtain ⟨s2, hs2⟩ : ∃ s2, s2 = upS (upS σ 399 3 (σ 399 4)) 399 5 (upS σ 399 3 (σ 399 4) 399 6) := ⟨_, rfl⟩
  have f2 : ∀ c x, ¬ c = 399 → s2 c x = σ c x := fun c x hc => by rw [hs2, up_a hc, up_a hc]
  have g3 : s2 399 3 = (a : Nat) := by rw [hs2, up_k (by decide), up_s, h4]
  have g5 : s2 399 5 = (b : Nat) := by rw [hs2, up_s, up_k (by decide), h6]
  have g4 : s2 399 4 = (a : Nat) := by rw [hs2, up_k (by decide), up_k (by decide), h4]
  have g6 : s2 399 6 = (b : Nat) := by rw [hs2, up_k (by decide), up_k (by decide), h6]
  have C2 := mgC_fr hPl hQl (WF_399 C.1 f2) (fun c x hc => f2 c x (by omega)) C
  have e1 := d78 (h := a) hP (WF_w C2.1 (pat_9 hP)) C2.2.1
  have e2 := d78 (h := b) hQ (WF_w C2.1 (pat_9 hQ)) C2.2.2.1
  have em : (if ((sO B b : Nat) : Int) < ((sO A a : Nat) : Int) then ((sO B b : Nat) : Int) else ((sO A a : Nat) : Int)) = (lo : Nat) := by
    by_cases z : ((sO B b : Nat) : Int) < ((sO A a : Nat) : Int)
    · rw [if_pos z]; omega
    · rw [if_neg z]; omega
  obtain ⟨s4, hs4⟩ : ∃ s4, s4 = upS (upS s2 399 1 (lo : Nat)) 399 2 (upS s2 399 1 (lo : Nat) 399 1) := ⟨_, rfl⟩
  have f4 : ∀ c x, ¬ (c = 399 ∧ (x = 1 ∨ x = 2)) → s4 c x = s2 c x := fun c x hc => by
    rw [hs4]
    unfold upS
    rw [if_neg (fun e => hc ⟨e.1, Or.inr e.2⟩), if_neg (fun e => hc ⟨e.1, Or.inl e.2⟩)]
  have k1 : s4 399 1 = (lo : Nat) := by rw [hs4, up_k (by decide), up_s]
  have k2 : s4 399 2 = (lo : Nat) := by rw [hs4, up_s, up_s]
  have C4 := mgC_fr hPl hQl (WF_399 C2.1 (fun c x hc => f4 c x (by omega))) (fun c x hc => f4 c x (by omega)) C2
  obtain ⟨s, a1, a2, a3, a4, a5⟩ := l77 hP hQ hPl hQl hn (A.length + B.length) 0 a b lo s4 (by omega) C4 (by rw [f4 _ _ (by omega)]; exact g4) (by rw [f4 _ _ (by omega)]; exact g6) k2 hl
  rw [hc] at a2 a3 a4
  have e3 := d98' hP C4.2.1
  have e4 := d98' hQ C4.2.2.1
  refine ⟨s, b77 hP hQ ?_, by rw [a5 _ _ (by omega)]; exact k1, a4, by rw [a5 _ _ (by omega), f4 _ _ (by omega)]; exact g3, a2, by rw [a5 _ _ (by omega), f4 _ _ (by omega)]; exact g5, a3, fun c x hx => by rw [a5 c x (by omega), f4 c x (by omega)]; exact f2 c x hx⟩
  rw [← hs2, g3]
  refine ⟨_, _, e1, ?_⟩
  rw [g5]
  refine ⟨_, _, e2, ?_⟩
  rw [em, ← hs4]
  refine ⟨_, _, e3, _, _, e4, by omega, ?_⟩
  rw [show ((A.length : Nat) : Int) + ((B.length : Nat) : Int) = ((A.length + B.length : Nat) : Int) by omega]
  exact a1
/-- addSide -/
theorem d80 {P na a a' lo hi : Nat} {N : Nat → Int} {l : List St} {σ : Sg} {L : List Int} (hP : isPatch P = true) (hPl : P + 12 < 399) (w : WF σ) (C : PC σ P l) (VN : RV σ (P + 3) na N) (R : Rw σ 400 L) (h1 : σ 399 1 = (lo : Nat)) (h2 : σ 399 2 = (hi : Nat)) (hlo : lo ≤ 100 ∧ hi ≤ 100) (ha : a ≤ l.length ∧ a' ≤ l.length) (e1 : ((npF l a lo : Nat) : Int) = (lo : Int) + dft l a) (e2 : ((npF l a' hi : Nat) : Int) = (hi : Int) + dft l a') (m1 : npF l a lo ≤ npF l a' hi) (m2 : npF l a' hi ≤ na) (hl : L.length + (npF l a' hi - npF l a lo) ≤ 96) : ∃ s, Dd 80 [vA 399, vA P, vI a, vI a'] σ (rV s) ∧ Rw s 400 (L ++ sdF N l a a' lo hi) ∧ ∀ c k, ¬ c = 400 → ¬ c = 401 → s c k = σ c k := by
  obtain ⟨q1, q2, -⟩ := rw400
  obtain ⟨k1, k2, k3⟩ := d107 hP (WF_w w (pat_9 hP)) C ha.1
  obtain ⟨k4, k5, k6⟩ := d107 hP (WF_w w (pat_9 hP)) C ha.2
  obtain ⟨s, g1, g2, g3⟩ := ap154 (A := 400) (x := npF l a lo) (y := npF l a' hi) q1 VN R (by omega) m1 m2 (by omega)
  refine ⟨s, b80 hP ⟨_, _, k1, by omega, _, _, k4, by omega, ?_⟩, g2, g3⟩
  rw [h1, h2, ← e1, ← e2]
  exact ⟨s, g1, rfl⟩
theorem l81 {P Q na nc a b : Nat} {NA NB : Nat → Int} {A B : List St} {σ : Sg} {q r : St} (hP : isPatch P = true) (hQ : isPatch Q = true) (w : WF σ) (CA : PC σ P A) (CB : PC σ Q B) (VA : RV σ (P + 3) na NA) (VB : RV σ (Q + 3) nc NB) (hq : A[a]? = some q) (hr : B[b]? = some r) (h3 : σ 399 3 = (a : Nat)) (h5 : σ 399 5 = (b : Nat)) (b1 : q.2.2.1 + q.2.2.2 ≤ na) (b2 : r.2.2.1 + q.2.2.2 ≤ nc) (hn : na ≤ 100 ∧ nc ≤ 100) : ∀ (d k : Nat), k + d = q.2.2.2 → C81_89 P Q k σ (rI (WI (∀ x, k ≤ x → x < q.2.2.2 → NA (q.2.2.1 + x) = NB (r.2.2.1 + x))) σ) := by
  obtain ⟨-, e4⟩ := pc_at2 hP (WF_w w (pat_9 hP)) CA hq
  obtain ⟨-, -, e3, -⟩ := pc_at hP (WF_w w (pat_9 hP)) CA hq
  obtain ⟨-, -, e5, -⟩ := pc_at hQ (WF_w w (pat_9 hQ)) CB hr
  intro d
  induction d with
  | zero =>
    intro k hk
    refine b81_89 hP hQ ?_
    rw [h3]
    refine ⟨_, _, e4, ?_⟩
    rw [if_neg (by omega), WI_1 (fun x h1 h2 => absurd h1 (by omega))]
  | succ d ih =>
    intro k hk
    have v1 := RV_147 VA (i := q.2.2.1 + k) (by omega)
    have v2 := RV_147 VB (i := r.2.2.1 + k) (by omega)
    refine b81_89 hP hQ ?_
    rw [h3]
    refine ⟨_, _, e4, ?_⟩
    rw [if_pos (by omega), h3]
    refine ⟨_, _, e3, by omega, ?_⟩
    rw [show ((q.2.2.1 : Nat) : Int) + (k : Int) = ((q.2.2.1 + k : Nat) : Int) by omega]
    refine ⟨_, _, v1, ?_⟩
    rw [h5]
    refine ⟨_, _, e5, by omega, ?_⟩
    rw [show ((r.2.2.1 : Nat) : Int) + (k : Int) = ((r.2.2.1 + k : Nat) : Int) by omega]
    refine ⟨_, _, v2, ?_⟩
    by_cases y : NA (q.2.2.1 + k) = NB (r.2.2.1 + k)
    · rw [if_pos y, show (k : Int) + 1 = ((k + 1 : Nat) : Int) by omega]
      rw [WI_cg (p := ∀ x, k ≤ x → x < q.2.2.2 → NA (q.2.2.1 + x) = NB (r.2.2.1 + x)) (q := ∀ x, k + 1 ≤ x → x < q.2.2.2 → NA (q.2.2.1 + x) = NB (r.2.2.1 + x)) ⟨fun h x h1 h2 => h x (by omega) h2, fun h x h1 h2 => by
        by_cases e : x = k
        · rw [e]; exact y
        · exact h x (by omega) h2⟩]
      exact ⟨by omega, ih (k + 1) (by omega)⟩
    · rw [if_neg y, WI_0 (fun h => y (h k (Nat.le_refl _) (by omega)))]
/-- isSameHunk -/
theorem d81 {P Q nb na nc a b a' b' : Nat} {FA FB X NA NB : Nat → Int} {A B : List St} {σ : Sg} (hP : isPatch P = true) (hQ : isPatch Q = true) (M : mgD FA FB X NA NB nb na nc A B) (C : mgC σ P Q nb na nc X NA NB A B) (h3 : σ 399 3 = (a : Nat)) (h4 : σ 399 4 = (a' : Nat)) (h5 : σ 399 5 = (b : Nat)) (h6 : σ 399 6 = (b' : Nat)) (ha : a ≤ a' ∧ a' ≤ A.length) (hb : b ≤ b' ∧ b' ≤ B.length) : Dd 81 [vA 399, vA P, vA Q] σ (rI (WI (a' = a + 1 ∧ b' = b + 1 ∧ saP NA NB A B a b)) σ) := by
  obtain ⟨w, CA, CB, -, VA, VB⟩ := C
  obtain ⟨m1, m2, m3, m4, m5, DA, DB, -, -⟩ := M
  refine b81 hP hQ ?_
  rw [h3, h4, h5, h6]
  refine ⟨by omega, ?_⟩
  by_cases y1 : a' = a + 1
  · rw [if_pos (by omega)]
    refine ⟨by omega, ?_⟩
    by_cases y2 : b' = b + 1
    · rw [if_pos (by omega)]
      obtain ⟨q, hq⟩ : ∃ q, A[a]? = some q := ⟨_, List.getElem?_eq_getElem (by omega)⟩
      obtain ⟨r, hr⟩ : ∃ r, B[b]? = some r := ⟨_, List.getElem?_eq_getElem (by omega)⟩
      have bq := (DS_b A 0 0 0 DA).2.2 q (List.mem_of_getElem? hq)
      have br := (DS_b B 0 0 0 DB).2.2 r (List.mem_of_getElem? hr)
      obtain ⟨e1, -, -, -⟩ := pc_at hP (WF_w w (pat_9 hP)) CA hq
      obtain ⟨e2, -, -, -⟩ := pc_at hQ (WF_w w (pat_9 hQ)) CB hr
      obtain ⟨e3, e5⟩ := pc_at2 hP (WF_w w (pat_9 hP)) CA hq
      obtain ⟨e4, e6⟩ := pc_at2 hQ (WF_w w (pat_9 hQ)) CB hr
      have un : (a' = a + 1 ∧ b' = b + 1 ∧ saP NA NB A B a b) ↔ (q.1 = r.1 ∧ q.2.1 = r.2.1 ∧ q.2.2.2 = r.2.2.2 ∧ ∀ k, k < q.2.2.2 → NA (q.2.2.1 + k) = NB (r.2.2.1 + k)) := by
        constructor
        · rintro ⟨-, -, q', r', u1, u2, u3⟩
          rw [hq] at u1
          rw [hr] at u2
          cases u1
          cases u2
          exact u3
        · intro u
          exact ⟨y1, y2, q, r, hq, hr, u⟩
      rw [WI_cg un]
      refine ⟨_, _, e1, ?_⟩
      rw [h5]
      refine ⟨_, _, e2, ?_⟩
      by_cases z1 : q.1 = r.1
      · rw [if_pos (by omega), h3]
        refine ⟨_, _, e3, ?_⟩
        rw [h5]
        refine ⟨_, _, e4, ?_⟩
        by_cases z2 : q.2.1 = r.2.1
        · rw [if_pos (by omega), h3]
          refine ⟨_, _, e5, ?_⟩
          rw [h5]
          refine ⟨_, _, e6, ?_⟩
          by_cases z3 : q.2.2.2 = r.2.2.2
          · rw [if_pos (by omega)]
            have z := l81 hP hQ w CA CB VA VB hq hr h3 h5 (by omega) (by omega) (by omega) q.2.2.2 0 (by omega)
            rw [WI_cg (p := q.1 = r.1 ∧ q.2.1 = r.2.1 ∧ q.2.2.2 = r.2.2.2 ∧ ∀ k, k < q.2.2.2 → NA (q.2.2.1 + k) = NB (r.2.2.1 + k)) (q := ∀ x, 0 ≤ x → x < q.2.2.2 → NA (q.2.2.1 + x) = NB (r.2.2.1 + x)) ⟨fun h x _ h2 => h.2.2.2 x h2, fun h => ⟨z1, z2, z3, fun k hk => h k (Nat.zero_le _) hk⟩⟩]
            exact z
          · rw [if_neg (by omega), WI_0 (fun h => z3 h.2.2.1)]
        · rw [if_neg (by omega), WI_0 (fun h => z2 h.2.1)]
      · rw [if_neg (by omega), WI_0 (fun h => z1 h.1)]
    · rw [if_neg (by omega), WI_0 (fun h => y2 h.2.1)]
  · rw [if_neg (by omega), WI_0 (fun h => y1 h.1)]
end
