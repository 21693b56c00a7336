/-! difference: what is paired, and the class's side. -/
noncomputable section
abbrev TS := (Nat → Int) × (Nat → Int)
abbrev fr1 (hA hB : Nat → Int) (s : TS) (n e : Nat) : Prop := s.1 n = -1 ∧ s.2 e = 0 ∧ ¬ hA n = 0 ∧ ¬ hB e = 0
def prS (s : TS) (n e : Nat) : TS := (fun x => if x = n then (e : Int) else s.1 x, fun x => if x = e then 1 else s.2 x)
def ts0 (hA hB : Nat → Int) : TS := (fun n => if ¬ hA n = 0 ∧ ¬ hB n = 0 then (n : Int) else -1, fun n => if ¬ hA n = 0 ∧ ¬ hB n = 0 then 1 else 0)
def pI (hA hB : Nat → Int) (sm : Nat → Nat → Bool) (n : Nat) : Nat → TS → TS
  | 0, s => s
  | d + 1, s => pI hA hB sm n d (if fr1 hA hB s n (5 - d) ∧ sm n (5 - d) = true then prS s n (5 - d) else s)
def pO (hA hB : Nat → Int) (sm : Nat → Nat → Bool) : Nat → TS → TS
  | 0, s => s
  | d + 1, s => pO hA hB sm d (pI hA hB sm (5 - d) 6 s)
abbrev BT := Int × Int × Int
def mI (hA hB : Nat → Int) (lk : Nat → Nat → Int) (s : TS) (n : Nat) : Nat → BT → BT
  | 0, b => b
  | d + 1, b => mI hA hB lk s n d (if fr1 hA hB s n (5 - d) ∧ b.1 < lk n (5 - d) then (lk n (5 - d), (n : Int), ((5 - d : Nat) : Int)) else b)
def mO (hA hB : Nat → Int) (lk : Nat → Nat → Int) (s : TS) : Nat → BT → BT
  | 0, b => b
  | d + 1, b => mO hA hB lk s d (mI hA hB lk s (5 - d) 6 b)
def mB (hA hB : Nat → Int) (lk : Nat → Nat → Int) (s : TS) : BT := mO hA hB lk s 6 (59, -1, -1)
def sA (hA hB : Nat → Int) (lk : Nat → Nat → Int) (s : TS) : TS := if (mB hA hB lk s).2.1 = -1 then s else prS s (mB hA hB lk s).2.1.toNat (mB hA hB lk s).2.2.toNat
def sN (hA hB : Nat → Int) (lk : Nat → Nat → Int) : Nat → TS → TS
  | 0, s => s
  | d + 1, s => sN hA hB lk d (sA hA hB lk s)
/-- the best is none, or two that are free -/
def okB (hA hB : Nat → Int) (s : TS) (b : BT) : Prop := (b.2.1 = -1 ∧ b.2.2 = -1) ∨ ∃ n e : Nat, n < 6 ∧ e < 6 ∧ b.2.1 = (n : Int) ∧ b.2.2 = (e : Int) ∧ fr1 hA hB s n e
theorem mI_ok {hA hB : Nat → Int} {lk : Nat → Nat → Int} {s : TS} {n : Nat} (hn : n < 6) : ∀ (d : Nat) (b : BT), d ≤ 6 → okB hA hB s b → okB hA hB s (mI hA hB lk s n d b) := by
  intro d
  induction d with
  | zero => intro b _ h; exact h
  | succ d ih =>
    intro b hd h
    show okB hA hB s (mI hA hB lk s n d (if fr1 hA hB s n (5 - d) ∧ b.1 < lk n (5 - d) then (lk n (5 - d), (n : Int), ((5 - d : Nat) : Int)) else b))
    by_cases y : fr1 hA hB s n (5 - d) ∧ b.1 < lk n (5 - d)
    · rw [if_pos y]
      exact ih _ (by omega) (Or.inr ⟨n, 5 - d, hn, by omega, rfl, rfl, y.1⟩)
    · rw [if_neg y]
      exact ih _ (by omega) h
theorem mO_ok {hA hB : Nat → Int} {lk : Nat → Nat → Int} {s : TS} : ∀ (d : Nat) (b : BT), d ≤ 6 → okB hA hB s b → okB hA hB s (mO hA hB lk s d b) := by
  intro d
  induction d with
  | zero => intro b _ h; exact h
  | succ d ih =>
    intro b hd h
    exact ih _ (by omega) (mI_ok (by omega) 6 b (by omega) h)
theorem mB_ok {hA hB : Nat → Int} {lk : Nat → Nat → Int} {s : TS} : okB hA hB s (mB hA hB lk s) := mO_ok 6 _ (by omega) (Or.inl ⟨rfl, rfl⟩)
/-- the class's rows of a difference at hand -/
def CT (σ0 σ : Sg) (s : TS) : Prop := WF σ ∧ (∀ c k, ¬ (333 ≤ c ∧ c ≤ 338) → ¬ (c = 343 ∧ k = 1) → ¬ c = 349 → ¬ c = 656 → ¬ c = 657 → ¬ (c = 655 ∧ k = 1) → σ c k = σ0 c k) ∧ σ 655 1 = 6 ∧ ∀ n, n < 6 → σ 656 n = s.1 n ∧ σ 657 n = s.2 n
def hv (σ0 : Sg) (t : Nat) : Nat → Int := fun n => σ0 652 (6 * t + n)
theorem CT_50 {σ0 σ : Sg} {s : TS} {t n : Nat} (C : CT σ0 σ s) (ht : t < 3) (hn : n < 6) : Dd 50 [vA 614, vI t, vI n] σ (rI (if hv σ0 t n = 0 then 0 else 1) σ) := by
  have e := d50_ok (σ := σ) (t := (t : Int)) (n := (n : Int)) (by omega) (by omega)
  rw [show ((t : Int) * 6 + (n : Int)).toNat = 6 * t + n by omega, C.2.1 652 _ (by omega) (by omega) (by omega) (by omega) (by omega) (by omega)] at e
  exact e
/-- arePairable -/
theorem d63 {σ0 σ : Sg} {s : TS} {t u n e : Nat} (C : CT σ0 σ s) (ht : t < 3) (hu : u < 3) (hn : n < 6) (he : e < 6) : Dd 63 [vA 614, vI t, vI n, vI u, vI e] σ (rI (if fr1 (hv σ0 t) (hv σ0 u) s n e then 1 else 0) σ) := by
  have e147 := d147 (σ := σ) (a := 655) (i := (n : Int)) (WF_w C.1 r653.2.2.1)
  rw [at_on (n := 6) (f := s.1) C.2.2.1 (fun i hi => (C.2.2.2 i hi).1) hn] at e147
  have no : ∀ {d5 : Option AV}, ¬ fr1 (hv σ0 t) (hv σ0 u) s n e → C63_36 t n u e d5 σ (rI (if fr1 (hv σ0 t) (hv σ0 u) s n e then 1 else 0) σ) := by
    intro d5 h
    rw [if_neg h]
    refine b63_36 (b63_37 ?_)
    rw [if_pos rfl]
  refine b63 ⟨_, _, e147, ?_⟩
  by_cases y1 : s.1 n = -1
  · rw [if_pos y1, if_pos (by omega)]
    refine ⟨by omega, ?_⟩
    rw [show ((e : Nat) : Int).toNat = e by omega, (C.2.2.2 e he).2]
    by_cases y2 : s.2 e = 0
    · rw [if_pos y2]
      refine b63_37 ?_
      rw [if_neg (show ¬ (1 : Int) = 0 by decide)]
      refine ⟨_, _, CT_50 C ht hn, ?_⟩
      by_cases y3 : hv σ0 t n = 0
      · rw [if_pos y3, if_pos rfl, if_neg (fun h => h.2.2.1 y3)]
      · rw [if_neg y3, if_neg (show ¬ (1 : Int) = 0 by decide)]
        refine ⟨_, _, CT_50 C hu he, ?_⟩
        by_cases y4 : hv σ0 u e = 0
        · rw [if_pos y4, if_pos rfl, if_neg (fun h => h.2.2.2 y4)]
        · rw [if_neg y4, if_neg (show ¬ (1 : Int) = 0 by decide), if_pos ⟨y1, y2, y3, y4⟩]
    · rw [if_neg y2]
      exact no (fun h => y2 h.2.1)
  · rw [if_neg y1]
    exact no (fun h => y1 h.1)
/-- pairFiles -/
theorem d59 {σ0 σ : Sg} {s : TS} {n e : Nat} (C : CT σ0 σ s) (hn : n < 6) (he : e < 6) : ∃ σ', Dd 59 [vA 614, vI n, vI e] σ (rV σ') ∧ CT σ0 σ' (prS s n e) := by
  obtain ⟨W, F, h6, hv⟩ := C
  have e148 := d148 (σ := σ) (a := 655) (i := (n : Int)) (v := (e : Int)) (WF_w W r653.2.2.1)
  rw [st_in (n := 6) h6 hn] at e148
  refine ⟨upS (upS σ 656 n e) 657 e 1, b59 ?_, WF_e (fun a ha => ?_) W, fun c k y1 y2 y3 y4 y5 y6 => ?_, ?_, fun x hx => ⟨?_, ?_⟩⟩
  · rw [if_pos (by omega), if_pos (by omega)]
    refine ⟨_, e148, by omega, ?_⟩
    rw [show ((e : Nat) : Int).toNat = e by omega]
  · have n1 : ¬ a = 657 := by intro q; subst q; exact absurd ha (by decide +kernel)
    rw [up_a n1, up_a (row_nx r653.2.2.1 ha)]
  · rw [up_a y5, up_a y4]
    exact F c k y1 y2 y3 y4 y5 y6
  · rw [up_a (by decide), up_a (by decide)]; exact h6
  · rw [up_a (by decide)]
    show _ = if x = n then (e : Int) else s.1 x
    by_cases y : x = n
    · rw [if_pos y, y, up_s]
    · rw [if_neg y, up_k y]; exact (hv x hx).1
  · show _ = if x = e then 1 else s.2 x
    by_cases y : x = e
    · rw [if_pos y, y, up_s]
    · rw [if_neg y, up_k y, up_a (by decide)]; exact (hv x hx).2
theorem CT_cg {σ0 σ : Sg} {s s' : TS} (h : ∀ n, n < 6 → s'.1 n = s.1 n ∧ s'.2 n = s.2 n) (C : CT σ0 σ s) : CT σ0 σ s' := ⟨C.1, C.2.1, C.2.2.1, fun n hn => ⟨by rw [(h n hn).1]; exact (C.2.2.2 n hn).1, by rw [(h n hn).2]; exact (C.2.2.2 n hn).2⟩⟩
/-- pairNames -/
theorem d60 {σ0 σ : Sg} {t u : Nat} (ht : t < 3) (hu : u < 3) (C : CT σ0 σ (fun _ => -1, fun _ => 0)) : ∃ σ', Dd 60 [vA 614, vI t, vI u] σ (rV σ') ∧ CT σ0 σ' (ts0 (hv σ0 t) (hv σ0 u)) := by
  have L : ∀ (d k : Nat) (σ : Sg), k + d = 6 → CT σ0 σ (fun n => if n < k then (ts0 (hv σ0 t) (hv σ0 u)).1 n else -1, fun n => if n < k then (ts0 (hv σ0 t) (hv σ0 u)).2 n else 0) → ∃ σ', C60_2 t u k σ (rV σ') ∧ CT σ0 σ' (ts0 (hv σ0 t) (hv σ0 u)) := by
    intro d
    induction d with
    | zero =>
      intro k σ hk C
      refine ⟨σ, b60_2 ?_, CT_cg (fun n hn => ⟨?_, ?_⟩) C⟩
      · rw [if_neg (by omega)]
      · dsimp only; rw [if_pos (by omega)]
      · dsimp only; rw [if_pos (by omega)]
    | succ d ih =>
      intro k σ hk C
      have to : ∀ {σ1 : Sg} {o : Rs}, C60_2 t u ((k + 1 : Nat) : Int) σ1 o → C60_32 t u k σ1 o := by
        intro σ1 o hh
        refine b60_32 ⟨by omega, ?_⟩
        rw [show (k : Int) + 1 = ((k + 1 : Nat) : Int) by omega]
        exact hh
      by_cases y : ¬ hv σ0 t k = 0 ∧ ¬ hv σ0 u k = 0
      · obtain ⟨σ1, a1, a2⟩ := d59 (n := k) (e := k) C (by omega) (by omega)
        obtain ⟨σ', c1, c2⟩ := ih (k + 1) σ1 (by omega) (CT_cg (fun n hn => by
          unfold prS ts0
          dsimp only
          by_cases q : n = k
          · subst q
            rw [if_pos (show n < n + 1 by omega), if_pos (show n < n + 1 by omega), if_pos rfl, if_pos rfl, if_pos y, if_pos y]
            exact ⟨rfl, rfl⟩
          · rw [if_neg q, if_neg q]
            by_cases q2 : n < k
            · rw [if_pos q2, if_pos q2, if_pos (show n < k + 1 by omega), if_pos (show n < k + 1 by omega)]
              exact ⟨rfl, rfl⟩
            · rw [if_neg q2, if_neg q2, if_neg (show ¬ n < k + 1 by omega), if_neg (show ¬ n < k + 1 by omega)]
              exact ⟨rfl, rfl⟩) a2)
        refine ⟨σ', b60_2 ?_, c2⟩
        rw [if_pos (by omega)]
        refine ⟨_, _, CT_50 C ht (by omega), ?_⟩
        rw [if_neg y.1, if_neg (show ¬ (1 : Int) = 0 by decide)]
        refine ⟨_, _, CT_50 C hu (by omega), ?_⟩
        rw [if_neg y.2, if_neg (show ¬ (1 : Int) = 0 by decide)]
        exact ⟨_, a1, to c1⟩
      · obtain ⟨σ', c1, c2⟩ := ih (k + 1) σ (by omega) (CT_cg (fun n hn => by
          unfold ts0
          dsimp only
          by_cases q : n = k
          · subst q
            rw [if_pos (show n < n + 1 by omega), if_pos (show n < n + 1 by omega), if_neg y, if_neg y, if_neg (Nat.lt_irrefl n), if_neg (Nat.lt_irrefl n)]
            exact ⟨rfl, rfl⟩
          · by_cases q2 : n < k
            · rw [if_pos q2, if_pos q2, if_pos (show n < k + 1 by omega), if_pos (show n < k + 1 by omega)]
              exact ⟨rfl, rfl⟩
            · rw [if_neg q2, if_neg q2, if_neg (show ¬ n < k + 1 by omega), if_neg (show ¬ n < k + 1 by omega)]
              exact ⟨rfl, rfl⟩) C)
        refine ⟨σ', b60_2 ?_, c2⟩
        rw [if_pos (by omega)]
        refine ⟨_, _, CT_50 C ht (by omega), ?_⟩
        by_cases y1 : hv σ0 t k = 0
        · rw [if_pos y1, if_pos rfl]
          exact to c1
        · rw [if_neg y1, if_neg (show ¬ (1 : Int) = 0 by decide)]
          refine ⟨_, _, CT_50 C hu (by omega), ?_⟩
          rw [if_pos (show hv σ0 u k = 0 by
            by_cases q : hv σ0 u k = 0
            · exact q
            · exact absurd ⟨y1, q⟩ y), if_pos rfl]
          exact to c1
  obtain ⟨σ', c1, c2⟩ := L 6 0 σ (by omega) (CT_cg (fun n hn => by
    dsimp only
    rw [if_neg (Nat.not_lt_zero n), if_neg (Nat.not_lt_zero n)]
    exact ⟨rfl, rfl⟩) C)
  exact ⟨σ', b60 c1, c2⟩
/-- a file's row -/
theorem d145f {σ : Sg} {t n : Nat} (ht : t < 3) (hn : n < 6) : Dd 145 [vA 615, vI ((t : Int) * 6 + (n : Int))] σ (rA (616 + 2 * (6 * t + n)) σ) := by
  have h := el_615 (i := ((6 * t + n : Nat) : Int)) (by omega)
  rw [show ((6 * t + n : Nat) : Int).toNat = 6 * t + n by omega] at h
  refine d145_ok (n := 18) (by decide +kernel) (by decide) (by omega) ?_ h.2
  rw [show ((t : Int) * 6 + (n : Int)).toNat = 6 * t + n by omega]
  exact h.1
theorem frow {t n : Nat} (ht : t < 3) (hn : n < 6) : isRow (616 + 2 * (6 * t + n)) = true ∧ (cap (616 + 2 * (6 * t + n)) : Int) = 16 := by
  have h := el_615 (i := ((6 * t + n : Nat) : Int)) (by omega)
  have h2 := cp_615 (i := ((6 * t + n : Nat) : Int)) (by omega)
  rw [show ((6 * t + n : Nat) : Int).toNat = 6 * t + n by omega] at h h2
  exact ⟨h.2, h2⟩
theorem d64 {σ0 σ : Sg} {s : TS} {t u n e : Nat} {sm : Nat → Nat → Bool} (C : CT σ0 σ s) (ht : t < 3) (hu : u < 3) (hn : n < 6) (he : e < 6) (hsm : sm n e = true ↔ smP σ0 (616 + 2 * (6 * t + n)) (616 + 2 * (6 * u + e))) : Dd 64 [vA 614, vI t, vI n, vI u, vI e] σ (rI (if sm n e = true then 1 else 0) σ) := by
  have r1 := (frow ht hn).1
  have r2 := (frow hu he).1
  have fs : ∀ {f : Nat}, f < 18 → σ (616 + 2 * f) = σ0 (616 + 2 * f) ∧ σ (616 + 2 * f + 1) = σ0 (616 + 2 * f + 1) := fun hf => ⟨funext fun x => C.2.1 _ _ (by omega) (by omega) (by omega) (by omega) (by omega) (by omega), funext fun x => C.2.1 _ _ (by omega) (by omega) (by omega) (by omega) (by omega) (by omega)⟩
  have g1 := fs (f := 6 * t + n) (by omega)
  have g2 := fs (f := 6 * u + e) (by omega)
  have hs : smP σ (616 + 2 * (6 * t + n)) (616 + 2 * (6 * u + e)) ↔ smP σ0 (616 + 2 * (6 * t + n)) (616 + 2 * (6 * u + e)) := by
    unfold smP
    rw [g1.1, g1.2, g2.1, g2.2]
  refine b64 ⟨_, _, d51_ok (by omega) (by omega), _, _, d145f ht hn, _, _, d51_ok (by omega) (by omega), _, _, d145f hu he, fun h => (by cases h), fun a h => ?_⟩
  cases h
  refine ⟨r1, fun h => (by cases h), fun a h => ?_⟩
  cases h
  refine ⟨r2, ?_⟩
  by_cases y : sm n e = true
  · rw [if_pos y]
    exact ⟨_, _, d156_t (WF_w C.1 r1) (WF_w C.1 r2) (hs.mpr (hsm.mp y)), by rw [if_neg (show ¬ (1 : Int) = 0 by decide)]⟩
  · rw [if_neg y]
    exact ⟨_, _, d156_f (WF_w C.1 r1) (WF_w C.1 r2) (fun h => y (hsm.mpr (hs.mp h))), by rw [if_pos rfl]⟩
/-- how alike two files are -/
def lkF (σ0 : Sg) (f f' : Nat) : Int := if σ0 (616 + 2 * f) 1 + σ0 (616 + 2 * f') 1 = 0 then 100 else Int.tdiv (200 * lt (σ0 (616 + 2 * f + 1)) (σ0 (616 + 2 * f' + 1)) (σ0 (616 + 2 * f) 1).toNat (σ0 (616 + 2 * f') 1).toNat (σ0 (616 + 2 * f) 1).toNat (σ0 (616 + 2 * f') 1).toNat) (σ0 (616 + 2 * f) 1 + σ0 (616 + 2 * f') 1)
theorem d65 {σ0 σ : Sg} {s : TS} {t u n e : Nat} (C : CT σ0 σ s) (ht : t < 3) (hu : u < 3) (hn : n < 6) (he : e < 6) : ∃ σ', Dd 65 [vA 614, vI t, vI n, vI u, vI e] σ (rI (lkF σ0 (6 * t + n) (6 * u + e)) σ') ∧ CT σ0 σ' s := by
  obtain ⟨r1, p1⟩ := frow ht hn
  obtain ⟨r2, p2⟩ := frow hu he
  have fs : ∀ {f : Nat}, f < 18 → σ (616 + 2 * f) = σ0 (616 + 2 * f) ∧ σ (616 + 2 * f + 1) = σ0 (616 + 2 * f + 1) := fun hf => ⟨funext fun x => C.2.1 _ _ (by omega) (by omega) (by omega) (by omega) (by omega) (by omega), funext fun x => C.2.1 _ _ (by omega) (by omega) (by omega) (by omega) (by omega) (by omega)⟩
  have g1 := fs (f := 6 * t + n) (by omega)
  have g2 := fs (f := 6 * u + e) (by omega)
  have w1 := C.1 _ r1
  have w2 := C.1 _ r2
  obtain ⟨n1, hn1⟩ := Int.eq_ofNat_of_zero_le w1.1
  obtain ⟨n2, hn2⟩ := Int.eq_ofNat_of_zero_le w2.1
  have e1 := d146 (σ := σ) r1
  have e2 := d146 (σ := σ) r2
  rw [hn1] at e1
  rw [hn2] at e2
  have z1 : σ0 (616 + 2 * (6 * t + n)) 1 = (n1 : Nat) := by rw [← g1.1]; exact hn1
  have z2 : σ0 (616 + 2 * (6 * u + e)) 1 = (n2 : Nat) := by rw [← g2.1]; exact hn2
  have pre : ∀ {o : Rs}, (-2147483648 ≤ ((n1 : Nat) : Int) + (n2 : Nat) ∧ ((n1 : Nat) : Int) + (n2 : Nat) ≤ 2147483647 → (if ((n1 : Nat) : Int) + (n2 : Nat) = 0 then o = rI 100 σ else (∃ (v25 : Int) (s24 : Sg), Dd 16 [vA 332, vA (616 + 2 * (6 * t + n)), vA (616 + 2 * (6 * u + e))] σ (rI v25 s24) ∧ (-2147483648 ≤ (200 * v25) ∧ (200 * v25) ≤ 2147483647) ∧ (0 < (((n1 : Nat) : Int) + (n2 : Nat))) ∧ o = (rI (Int.tdiv (200 * v25) (((n1 : Nat) : Int) + (n2 : Nat))) s24)))) → Dd 65 [vA 614, vI t, vI n, vI u, vI e] σ o := by
    intro o hh
    refine b65 ⟨_, _, d51_ok (by omega) (by omega), _, _, d145f ht hn, _, _, d51_ok (by omega) (by omega), _, _, d145f hu he, fun h => (by cases h), fun a h => ?_⟩
    cases h
    refine ⟨r1, fun h => (by cases h), fun a h => ?_⟩
    cases h
    exact ⟨r2, _, _, e1, _, _, e2, by omega, hh (by omega)⟩
  by_cases y : ((n1 : Nat) : Int) + (n2 : Nat) = 0
  · refine ⟨σ, pre (fun _ => ?_), C⟩
    rw [if_pos y]
    unfold lkF
    rw [z1, z2, if_pos y]
  · obtain ⟨s', a1, a2, a3⟩ := d16 C.1 r1 r2 hn1 hn2 (by omega) (by omega) (by omega) (by omega)
    have bL := lt_b (f := σ (616 + 2 * (6 * t + n) + 1)) (g := σ (616 + 2 * (6 * u + e) + 1)) (ae := n1) (be := n2) n1 n2
    refine ⟨s', pre (fun _ => ?_), a2, fun c k y1 y2 y3 y4 y5 y6 => by rw [a3 c k y1 y2 y3]; exact C.2.1 c k y1 y2 y3 y4 y5 y6, by rw [a3 _ _ (by decide) (by decide) (by decide)]; exact C.2.2.1, fun x hx => by rw [a3 _ _ (by decide) (by omega) (by decide), a3 _ _ (by decide) (by omega) (by decide)]; exact C.2.2.2 x hx⟩
    rw [if_neg y]
    refine ⟨_, _, a1, by omega, by omega, ?_⟩
    unfold lkF
    rw [z1, z2, if_neg y, ← g1.2, ← g2.2, show ((n1 : Nat) : Int).toNat = n1 by omega, show ((n2 : Nat) : Int).toNat = n2 by omega]
/-- pairTexts -/
theorem l61b {σ0 : Sg} {t u n : Nat} {sm : Nat → Nat → Bool} (ht : t < 3) (hu : u < 3) (hn : n < 6) (hsm : ∀ n e, n < 6 → e < 6 → (sm n e = true ↔ smP σ0 (616 + 2 * (6 * t + n)) (616 + 2 * (6 * u + e)))) : ∀ (d : Nat) (σ : Sg) (s : TS), d ≤ 6 → CT σ0 σ s → ∃ σ', (∀ {o : Rs}, (∀ d4, C61_2 t u ((n + 1 : Nat) : Int) d4 σ' o) → C61_11 t u n ((6 - d : Nat) : Int) σ o) ∧ CT σ0 σ' (pI (hv σ0 t) (hv σ0 u) sm n d s) := by
  intro d
  induction d with
  | zero =>
    intro σ s hd C
    refine ⟨σ, fun {o} hh => b61_11 ?_, C⟩
    rw [if_neg (by omega), show (n : Int) + 1 = ((n + 1 : Nat) : Int) by omega]
    exact ⟨by omega, hh _⟩
  | succ d ih =>
    intro σ s hd C
    rw [show 6 - (d + 1) = 5 - d by omega]
    have q63 := d63 (n := n) (e := 5 - d) C ht hu hn (by omega)
    have to : ∀ {σ1 : Sg} {o : Rs}, C61_11 t u n ((6 - d : Nat) : Int) σ1 o → C61_49 t u n ((5 - d : Nat) : Int) σ1 o := by
      intro σ1 o hh
      refine b61_49 ⟨by omega, ?_⟩
      rw [show ((5 - d : Nat) : Int) + 1 = ((6 - d : Nat) : Int) by omega]
      exact hh
    by_cases y : fr1 (hv σ0 t) (hv σ0 u) s n (5 - d)
    · rw [if_pos y] at q63
      have q64 := d64 (n := n) (e := 5 - d) C ht hu hn (by omega) (hsm n (5 - d) hn (by omega))
      by_cases y2 : sm n (5 - d) = true
      · obtain ⟨σ1, a1, a2⟩ := d59 (n := n) (e := 5 - d) C hn (by omega)
        obtain ⟨σ', c1, c2⟩ := ih σ1 _ (by omega) a2
        rw [if_pos y2] at q64
        refine ⟨σ', fun {o} hh => b61_11 ?_, ?_⟩
        · rw [if_pos (by omega)]
          refine ⟨_, _, q63, ?_⟩
          rw [if_neg (show ¬ (1 : Int) = 0 by decide)]
          refine ⟨_, _, q64, ?_⟩
          rw [if_neg (show ¬ (1 : Int) = 0 by decide)]
          exact ⟨_, a1, to (c1 hh)⟩
        · show CT σ0 σ' (pI (hv σ0 t) (hv σ0 u) sm n d (if fr1 (hv σ0 t) (hv σ0 u) s n (5 - d) ∧ sm n (5 - d) = true then prS s n (5 - d) else s))
          rw [if_pos ⟨y, y2⟩]
          exact c2
      · obtain ⟨σ', c1, c2⟩ := ih σ s (by omega) C
        rw [if_neg y2] at q64
        refine ⟨σ', fun {o} hh => b61_11 ?_, ?_⟩
        · rw [if_pos (by omega)]
          refine ⟨_, _, q63, ?_⟩
          rw [if_neg (show ¬ (1 : Int) = 0 by decide)]
          refine ⟨_, _, q64, ?_⟩
          rw [if_pos rfl]
          exact to (c1 hh)
        · show CT σ0 σ' (pI (hv σ0 t) (hv σ0 u) sm n d (if fr1 (hv σ0 t) (hv σ0 u) s n (5 - d) ∧ sm n (5 - d) = true then prS s n (5 - d) else s))
          rw [if_neg (fun h => y2 h.2)]
          exact c2
    · rw [if_neg y] at q63
      obtain ⟨σ', c1, c2⟩ := ih σ s (by omega) C
      refine ⟨σ', fun {o} hh => b61_11 ?_, ?_⟩
      · rw [if_pos (by omega)]
        refine ⟨_, _, q63, ?_⟩
        rw [if_pos rfl]
        exact to (c1 hh)
      · show CT σ0 σ' (pI (hv σ0 t) (hv σ0 u) sm n d (if fr1 (hv σ0 t) (hv σ0 u) s n (5 - d) ∧ sm n (5 - d) = true then prS s n (5 - d) else s))
        rw [if_neg (fun h => y h.1)]
        exact c2
theorem d61 {σ0 σ : Sg} {s : TS} {t u : Nat} {sm : Nat → Nat → Bool} (ht : t < 3) (hu : u < 3) (hsm : ∀ n e, n < 6 → e < 6 → (sm n e = true ↔ smP σ0 (616 + 2 * (6 * t + n)) (616 + 2 * (6 * u + e)))) (C : CT σ0 σ s) : ∃ σ', Dd 61 [vA 614, vI t, vI u] σ (rV σ') ∧ CT σ0 σ' (pO (hv σ0 t) (hv σ0 u) sm 6 s) := by
  have L : ∀ (d : Nat) (σ : Sg) (s : TS), d ≤ 6 → CT σ0 σ s → ∃ σ', (∀ d4, C61_2 t u ((6 - d : Nat) : Int) d4 σ (rV σ')) ∧ CT σ0 σ' (pO (hv σ0 t) (hv σ0 u) sm d s) := by
    intro d
    induction d with
    | zero =>
      intro σ s hd C
      refine ⟨σ, fun d4 => b61_2 ?_, C⟩
      rw [if_neg (by omega)]
    | succ d ih =>
      intro σ s hd C
      obtain ⟨σ1, a1, a2⟩ := l61b (n := 5 - d) ht hu (by omega) hsm 6 σ s (by omega) C
      obtain ⟨σ', c1, c2⟩ := ih σ1 _ (by omega) a2
      refine ⟨σ', fun d4 => b61_2 ?_, c2⟩
      rw [if_pos (by omega), show 6 - (d + 1) = 5 - d by omega]
      rw [show 5 - d + 1 = 6 - d by omega] at a1
      exact a1 c1
  obtain ⟨σ', c1, c2⟩ := L 6 σ s (by omega) C
  exact ⟨σ', b61 (c1 _), c2⟩
/-- pairMostAlike -/
theorem l62b {σ0 : Sg} {s : TS} {t u n : Nat} (ht : t < 3) (hu : u < 3) (hn : n < 6) : ∀ (d : Nat) (σ : Sg) (b : BT), d ≤ 6 → CT σ0 σ s → ∃ σ' b', b' = mI (hv σ0 t) (hv σ0 u) (fun n e => lkF σ0 (6 * t + n) (6 * u + e)) s n d b ∧ (∀ {o : Rs}, (∀ d7, C62_12 t u b'.2.1 b'.2.2 b'.1 ((n + 1 : Nat) : Int) d7 σ' o) → C62_22 t u b.2.1 b.2.2 b.1 n ((6 - d : Nat) : Int) σ o) ∧ CT σ0 σ' s := by
  intro d
  induction d with
  | zero =>
    intro σ b hd C
    refine ⟨σ, b, rfl, fun {o} hh => b62_22 ?_, C⟩
    rw [if_neg (by omega), show (n : Int) + 1 = ((n + 1 : Nat) : Int) by omega]
    exact ⟨by omega, hh _⟩
  | succ d ih =>
    intro σ b hd C
    rw [show 6 - (d + 1) = 5 - d by omega]
    have q63 := d63 (n := n) (e := 5 - d) C ht hu hn (by omega)
    have to : ∀ {σ1 : Sg} {x3 x4 x5 : Int} {o : Rs}, C62_22 t u x3 x4 x5 n ((6 - d : Nat) : Int) σ1 o → C62_76 t u x3 x4 x5 n ((5 - d : Nat) : Int) σ1 o := by
      intro σ1 x3 x4 x5 o hh
      refine b62_76 ⟨by omega, ?_⟩
      rw [show ((5 - d : Nat) : Int) + 1 = ((6 - d : Nat) : Int) by omega]
      exact hh
    by_cases y : fr1 (hv σ0 t) (hv σ0 u) s n (5 - d)
    · rw [if_pos y] at q63
      obtain ⟨σ1, a1, a2⟩ := d65 (n := n) (e := 5 - d) C ht hu hn (by omega)
      by_cases y2 : b.1 < lkF σ0 (6 * t + n) (6 * u + (5 - d))
      · obtain ⟨σ2, a3, a4⟩ := d65 (n := n) (e := 5 - d) a2 ht hu hn (by omega)
        obtain ⟨σ', b', c0, c1, c2⟩ := ih σ2 (lkF σ0 (6 * t + n) (6 * u + (5 - d)), (n : Int), ((5 - d : Nat) : Int)) (by omega) a4
        refine ⟨σ', b', ?_, fun {o} hh => b62_22 ?_, c2⟩
        · rw [c0]
          show _ = mI _ _ _ s n d (if fr1 (hv σ0 t) (hv σ0 u) s n (5 - d) ∧ b.1 < lkF σ0 (6 * t + n) (6 * u + (5 - d)) then _ else b)
          rw [if_pos ⟨y, y2⟩]
        · rw [if_pos (by omega)]
          refine ⟨_, _, q63, ?_⟩
          rw [if_neg (show ¬ (1 : Int) = 0 by decide)]
          refine ⟨_, _, a1, ?_⟩
          rw [if_pos y2]
          exact ⟨_, _, a3, to (c1 hh)⟩
      · obtain ⟨σ', b', c0, c1, c2⟩ := ih σ1 b (by omega) a2
        refine ⟨σ', b', ?_, fun {o} hh => b62_22 ?_, c2⟩
        · rw [c0]
          show _ = mI _ _ _ s n d (if fr1 (hv σ0 t) (hv σ0 u) s n (5 - d) ∧ b.1 < lkF σ0 (6 * t + n) (6 * u + (5 - d)) then _ else b)
          rw [if_neg (fun h => y2 h.2)]
        · rw [if_pos (by omega)]
          refine ⟨_, _, q63, ?_⟩
          rw [if_neg (show ¬ (1 : Int) = 0 by decide)]
          refine ⟨_, _, a1, ?_⟩
          rw [if_neg y2]
          exact to (c1 hh)
    · rw [if_neg y] at q63
      obtain ⟨σ', b', c0, c1, c2⟩ := ih σ b (by omega) C
      refine ⟨σ', b', ?_, fun {o} hh => b62_22 ?_, c2⟩
      · rw [c0]
        show _ = mI _ _ _ s n d (if fr1 (hv σ0 t) (hv σ0 u) s n (5 - d) ∧ b.1 < lkF σ0 (6 * t + n) (6 * u + (5 - d)) then _ else b)
        rw [if_neg (fun h => y h.1)]
      · rw [if_pos (by omega)]
        refine ⟨_, _, q63, ?_⟩
        rw [if_pos rfl]
        exact to (c1 hh)
theorem d62 {σ0 σ : Sg} {s : TS} {t u : Nat} (ht : t < 3) (hu : u < 3) (C : CT σ0 σ s) : ∃ σ', Dd 62 [vA 614, vI t, vI u] σ (rV σ') ∧ CT σ0 σ' (sA (hv σ0 t) (hv σ0 u) (fun n e => lkF σ0 (6 * t + n) (6 * u + e)) s) := by
  have L : ∀ (d : Nat) (σ : Sg) (b : BT), d ≤ 6 → CT σ0 σ s → ∃ σ' b', b' = mO (hv σ0 t) (hv σ0 u) (fun n e => lkF σ0 (6 * t + n) (6 * u + e)) s d b ∧ (∀ {o : Rs}, (∃ s1, Dd 59 [vA 614, vI b'.2.1, vI b'.2.2] σ' (rV s1) ∧ o = rV s1) → ∀ d7, C62_12 t u b.2.1 b.2.2 b.1 ((6 - d : Nat) : Int) d7 σ o) ∧ CT σ0 σ' s := by
    intro d
    induction d with
    | zero =>
      intro σ b hd C
      refine ⟨σ, b, rfl, fun {o} hh d7 => b62_12 ?_, C⟩
      rw [if_neg (by omega)]
      exact hh
    | succ d ih =>
      intro σ b hd C
      obtain ⟨σ1, b1, c0, c1, c2⟩ := l62b (n := 5 - d) ht hu (by omega) 6 σ b (by omega) C
      obtain ⟨σ', b', e0, e1, e2⟩ := ih σ1 b1 (by omega) c2
      refine ⟨σ', b', by rw [e0, c0]; rfl, fun {o} hh d7 => b62_12 ?_, e2⟩
      rw [if_pos (by omega), show 6 - (d + 1) = 5 - d by omega]
      rw [show 5 - d + 1 = 6 - d by omega] at c1
      exact c1 (e1 hh)
  obtain ⟨σ1, b, e0, e1, e2⟩ := L 6 σ (59, -1, -1) (by omega) C
  have ok := mB_ok (hA := hv σ0 t) (hB := hv σ0 u) (lk := fun n e => lkF σ0 (6 * t + n) (6 * u + e)) (s := s)
  have eb : mB (hv σ0 t) (hv σ0 u) (fun n e => lkF σ0 (6 * t + n) (6 * u + e)) s = b := e0.symm
  unfold sA
  rw [eb] at ok ⊢
  rcases ok with ⟨k1, k2⟩ | ⟨n, e, k1, k2, k3, k4, k5⟩
  · rw [if_pos k1]
    refine ⟨σ1, b62 (e1 ⟨σ1, b59 ?_, rfl⟩ _), e2⟩
    rw [k2, if_neg (by decide)]
  · rw [if_neg (by omega)]
    obtain ⟨σ2, a1, a2⟩ := d59 (n := n) (e := e) e2 k1 k2
    rw [k3, k4] at e1
    refine ⟨σ2, b62 (e1 ⟨σ2, a1, rfl⟩ _), ?_⟩
    rw [k3, k4, show ((n : Nat) : Int).toNat = n by omega, show ((e : Nat) : Int).toNat = e by omega]
    exact a2
end
