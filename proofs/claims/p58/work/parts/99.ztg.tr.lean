/-! Trees, of the class and of the law. -/
noncomputable section
/-- only the trees, or only the rows of bytes and the deltas, differ -/
def OTr (σ s : Sg) : Prop := ∀ x k, x < 682 → KP x k → ¬ (616 ≤ x ∧ x ≤ 657) → s x k = σ x k
def ODt (σ s : Sg) : Prop := ∀ x k, x < 682 → KP x k → ¬ (11 ≤ x ∧ x ≤ 18) → ¬ (658 ≤ x ∧ x ≤ 679) → s x k = σ x k
theorem LI_td {n m : Nat} {w w' : WS} {c : Int} (L : LI n w) (hnm : n ≤ m) (hE : w'.1 = w.1) (hR : Rel c w'.2.2) (h : ∀ x k, x < 682 → KP x k → ¬ (616 ≤ x ∧ x ≤ 657) → ¬ (11 ≤ x ∧ x ≤ 18) → ¬ (658 ≤ x ∧ x ≤ 679) → w'.2.2 x k = w.2.2 x k) (ht : ∀ a k, 682 ≤ a → a < SCR → ¬ (a = 682 ∧ (k = 1 ∨ k = 2)) → w'.2.1 a k = w.2.1 a k) (h1 : w'.2.2 653 1 = 6 * w'.2.1 682 1) (h2 : w'.2.1 682 2 = w'.2.2 658 1) (hm : m ≤ 1000) : LI m w' := by
  have hb := LI_b L
  obtain ⟨a1, a2, a3, a4, a5, a6, a7, a8, a9, b1, b2, b3⟩ := L
  have hs : SCR = 1000000000 := rfl
  have u : ∀ k, ¬ (k = 1 ∨ k = 2) → w'.2.1 682 k = w.2.1 682 k := fun k hk => ht 682 k (by decide) (by omega) (by omega)
  have st : ∀ x k, 402 ≤ x → x ≤ 472 → w'.2.2 x k = w.2.2 x k := fun x k y1 y2 => h x k (by omega) (by unfold KP; omega) (by omega) (by omega) (by omega)
  have e3 := st 402 3 (by decide) (by decide)
  have e4 := st 402 4 (by decide) (by decide)
  have eT : tpR w'.2.2 = tpR w.2.2 := by unfold tpR; rw [e3]
  have hl : 0 < w.1.length := by
    cases hw : w.1 with
    | nil => rw [hw] at a1; cases a1
    | cons _ _ => simp
  refine ⟨by rw [hE]; exact a1, Rel_dn hR (by omega), ?_, h1, h2, by rw [u 3 (by omega), e3]; exact a6, by rw [u 4 (by omega), e4]; exact a7, fun k hk => ?_, ?_, fun a y1 y2 k => ?_, by rw [hE]; omega, by rw [u 4 (by omega)]; omega⟩
  · rw [u 0 (by omega), h 0 3 (by decide) (by unfold KP; omega) (by decide) (by decide) (by decide)]; exact a3
  · rw [e3] at hk
    rw [u (6 + k) (by omega), st 472 k (by decide) (by decide)]
    exact a8 k hk
  · rw [u 5 (by omega), eT]
    rcases a9 with a9 | ⟨t, t1, t2, t3⟩
    · exact Or.inl a9
    · refine Or.inr ⟨t, t1, t2, ?_⟩
      have hp := tp_in (σ := w.2.2) ⟨hb.1, hb.2.1⟩
      exact smP_cg (funext fun k => h _ k (by omega) (by unfold KP; omega) (by omega) (by omega) (by omega)) (funext fun k => h _ k (by omega) (by unfold KP; omega) (by omega) (by omega) (by omega)) (funext fun k => st _ k (by omega) (by omega)) (funext fun k => st _ k (by omega) (by omega)) t3
  · rw [hE] at y1
    rw [ht a k (by omega) y2 (by omega)]
    exact b1 a y1 y2 k
/-- setFile -/
theorem c215 {σ : Sg} {c a3 : Int} {t n : Nat} (H : Rel c σ) (ht : t < 3) (hn : n < 6) (h3 : -1 ≤ a3 ∧ a3 ≤ 3) : ∃ (v : Int) (s2 : Sg), (v = 0 ∨ v = 1) ∧ Dc 215 [vA 0, vI t, vI n, vI a3] σ (.inl (some (.inl v))) s2 ∧ v = σ 652 (6 * t + n) ∧ Rel (c + 1) s2 ∧ OTr σ s2 ∧ s2 653 1 = σ 653 1 ∧ s2 652 (6 * t + n) = if a3 = -1 then 0 else 1 := by
  have k1 : 0 ≤ (t : Int) ∧ (t : Int) < 3 := by omega
  have k2 : 0 ≤ (n : Int) ∧ (n : Int) < 6 := by omega
  obtain ⟨fi, hfi⟩ : ∃ fi, fi = 6 * t + n := ⟨_, rfl⟩
  have hfi2 : (t : Int) * 6 + (n : Int) = (fi : Int) := by omega
  rw [← hfi]
  have hf18 : fi < 18 := by omega
  have hE := d50_ok (σ := σ) k1 k2
  have hRF := H.2.2.2.2.2.2.2.1
  obtain ⟨p1, p2, p3⟩ := hRF.1 fi hf18
  have hhad : (if σ 652 fi = 0 then (0 : Int) else 1) = σ 652 fi := by
    rcases p2 with z | z
    · rw [if_pos z, z]
    · rw [if_neg (by omega), z]
  rw [hfi2, tn, hhad] at hE
  have h51 := d51_ok (σ := σ) k1 k2
  rw [hfi2] at h51
  by_cases g7 : a3 = -1
  · have hA : Dd 215 [vA 0, vI t, vI n, vI a3] σ (rI (σ 652 fi) (upS σ 652 fi 0)) := by
      refine b215 (Or.inl ⟨_, d232_ok k1, Or.inl ⟨_, d232_ok k2, _, _, hE, ?_⟩⟩)
      rw [if_pos g7]
      refine ⟨_, b52 ⟨_, _, h51, ?_⟩, p2, rfl⟩
      rw [if_pos (by omega)]
      exact ⟨by omega, rfl⟩
    obtain ⟨s2, d1, d2, d3⟩ := fc_joinB (fc43 (a1 := t) (a2 := n) (a3 := a3) H) hA
    exact ⟨_, s2, p2, d1, rfl, d2, fun x k h1 h2 h4 => by rw [d3 x h1, up_a (by omega)], by rw [d3 653 (by decide), up_a (by decide)], by rw [if_pos g7, d3 652 (by decide), up_s]⟩
  · have k3 : 0 ≤ a3 ∧ a3 < 4 := by omega
    obtain ⟨t1, t2, t3⟩ := rel_t H k3
    have hr3 := (el_1 k3).2
    have hcc := cp_1 k3
    obtain ⟨ti, hti⟩ := Int.eq_ofNat_of_zero_le k3.1
    have k227 := d227_ok (σ := σ) k3
    rw [show a3.toNat = ti by omega] at t1 t2 t3 hr3 hcc k227
    have hfe := el_615 (i := (fi : Int)) (by omega)
    have hfc := cp_615 (i := (fi : Int)) (by omega)
    rw [tn] at hfe hfc
    have wr : wR (upS σ 652 fi 1) (2 + 2 * ti) := ⟨hr3, by rw [up_a (by omega)]; omega, by rw [up_a (by omega)]; omega⟩
    have hA : Dd 215 [vA 0, vI t, vI n, vI a3] σ (rI (σ 652 fi) (bcS (upS σ 652 fi 1) (616 + 2 * fi) (2 + 2 * ti))) := by
      refine b215 (Or.inl ⟨_, d232_ok k1, Or.inl ⟨_, d232_ok k2, _, _, hE, ?_⟩⟩)
      rw [if_neg g7]
      refine Or.inl ⟨_, _, k227, hr3, _, b53 ⟨_, _, h51, ?_⟩, p2, rfl⟩
      rw [if_pos (by omega), if_pos (by omega), tn]
      exact ⟨by omega, by omega, _, hfe.1, hfe.2, _, d155 hfe.2 wr, rfl⟩
    obtain ⟨s2, d1, d2, d3⟩ := fc_joinB (fc43 (a1 := t) (a2 := n) (a3 := a3) H) hA
    exact ⟨_, s2, p2, d1, rfl, d2, fun x k h1 h2 h4 => by rw [d3 x h1, bc_off (by omega) (by omega), up_a (by omega)], by rw [d3 653 (by decide), bc_off (by omega) (by omega), up_a (by decide)], by rw [if_neg g7, d3 652 (by decide), bc_off (by omega) (by omega), up_s]⟩
/-- goals of a difference: each once; of one tree with itself: itself -/
def JTS (hA hB : Nat → Int) (s : TS) : Prop := INV hA hB s ∧ (∀ n n', n < 6 → n' < 6 → ¬ s.1 n = -1 → s.1 n = s.1 n' → n = n') ∧ (∀ n, n < 6 → ¬ s.1 n = -1 → ¬ s.2 (s.1 n).toNat = 0) ∧ ((∀ n, n < 6 → hA n = hB n) → ∀ n, n < 6 → s.1 n = -1 ∨ s.1 n = (n : Int))
theorem JTS_0 {hA hB : Nat → Int} : JTS hA hB (ts0 hA hB) := by
  have v : ∀ n, (ts0 hA hB).1 n = if ¬ hA n = 0 ∧ ¬ hB n = 0 then (n : Int) else -1 := fun _ => rfl
  have v2 : ∀ n, (ts0 hA hB).2 n = if ¬ hA n = 0 ∧ ¬ hB n = 0 then 1 else 0 := fun _ => rfl
  refine ⟨INV_0, fun n n' h1 h2 h3 h4 => ?_, fun n h1 h3 => ?_, fun _ n h1 => ?_⟩
  · rw [v] at h3 h4
    rw [v] at h4
    by_cases y : ¬ hA n = 0 ∧ ¬ hB n = 0
    · rw [if_pos y] at h4
      by_cases y' : ¬ hA n' = 0 ∧ ¬ hB n' = 0
      · rw [if_pos y'] at h4; omega
      · rw [if_neg y'] at h4; omega
    · rw [if_neg y] at h3
      exact absurd rfl h3
  · rw [v] at h3 ⊢
    by_cases y : ¬ hA n = 0 ∧ ¬ hB n = 0
    · rw [if_pos y, tn, v2, if_pos y]; decide
    · rw [if_neg y] at h3
      exact absurd rfl h3
  · rw [v]
    split
    · exact Or.inr rfl
    · exact Or.inl rfl
theorem JTS_p {hA hB : Nat → Int} {s : TS} {n e : Nat} (J : JTS hA hB s) (hn : n < 6) (he : e < 6) (hf : fr1 hA hB s n e) : JTS hA hB (prS s n e) := by
  obtain ⟨I, j1, j2, j3⟩ := J
  obtain ⟨f1, f2, f3, f4⟩ := hf
  have v : ∀ x, (prS s n e).1 x = if x = n then (e : Int) else s.1 x := fun _ => rfl
  have v2 : ∀ x, (prS s n e).2 x = if x = e then 1 else s.2 x := fun _ => rfl
  have ne : ∀ x, x < 6 → ¬ s.1 x = -1 → ¬ s.1 x = (e : Int) := fun x hx h1 h2 => by
    have := j2 x hx h1
    rw [h2, tn] at this
    exact this f2
  refine ⟨INV_p I he, fun x x' h1 h2 h3 h4 => ?_, fun x h1 h3 => ?_, fun hs x h1 => ?_⟩
  · rw [v, v] at h4
    rw [v] at h3
    by_cases y : x = n
    · rw [if_pos y] at h4
      by_cases y' : x' = n
      · omega
      · rw [if_neg y'] at h4
        exact absurd h4.symm (ne x' h2 (by omega))
    · rw [if_neg y] at h3 h4
      by_cases y' : x' = n
      · rw [if_pos y'] at h4
        exact absurd h4 (ne x h1 h3)
      · rw [if_neg y'] at h4
        exact j1 x x' h1 h2 h3 h4
  · rw [v] at h3 ⊢
    rw [v2]
    by_cases y : x = n
    · rw [if_pos y, tn, if_pos rfl]; decide
    · rw [if_neg y] at h3 ⊢
      split
      · decide
      · exact j2 x h1 h3
  · have i := (I n hn).1 f3 (by rw [← hs n hn]; exact f3)
    exact absurd f1 i.1
theorem JTS_pI {hA hB : Nat → Int} {sm : Nat → Nat → Bool} {n : Nat} (hn : n < 6) : ∀ (d : Nat) (s : TS), d ≤ 6 → JTS hA hB s → JTS hA hB (pI hA hB sm n d s) := by
  intro d
  induction d with
  | zero => intro s _ I; exact I
  | succ d ih =>
    intro s hd I
    show JTS hA hB (pI hA hB sm n d (if fr1 hA hB s n (5 - d) ∧ sm n (5 - d) = true then prS s n (5 - d) else s))
    refine ih _ (by omega) ?_
    by_cases y : fr1 hA hB s n (5 - d) ∧ sm n (5 - d) = true
    · rw [if_pos y]; exact JTS_p I hn (by omega) y.1
    · rw [if_neg y]; exact I
theorem JTS_pO {hA hB : Nat → Int} {sm : Nat → Nat → Bool} : ∀ (d : Nat) (s : TS), JTS hA hB s → JTS hA hB (pO hA hB sm d s) := by
  intro d
  induction d with
  | zero => intro s I; exact I
  | succ d ih =>
    intro s I
    exact ih _ (JTS_pI (by omega) 6 s (by omega) I)
theorem JTS_sA {hA hB : Nat → Int} {lk : Nat → Nat → Int} {s : TS} (I : JTS hA hB s) : JTS hA hB (sA hA hB lk s) := by
  unfold sA
  have ok := mB_ok (hA := hA) (hB := hB) (lk := lk) (s := s)
  rcases ok with ⟨k1, k2⟩ | ⟨n, e, k1, k2, k3, k4, k5⟩
  · rw [if_pos k1]; exact I
  · rw [if_neg (by omega), k3, k4, tn, tn]
    exact JTS_p I k1 k2 k5
theorem JTS_sN {hA hB : Nat → Int} {lk : Nat → Nat → Int} : ∀ (d : Nat) (s : TS), JTS hA hB s → JTS hA hB (sN hA hB lk d s) := by
  intro d
  induction d with
  | zero => intro s I; exact I
  | succ d ih =>
    intro s I
    exact ih _ (JTS_sA I)
/-- difference -/
theorem c216 {σ : Sg} {c : Int} {t u D : Nat} (H : Rel c σ) (ht : t < 3) (hu : u < 3) (h53 : σ 653 1 = 6 * (D : Int)) (hD : D < 10) : ∃ (G : Nat → Int) (s2 : Sg), Dc 216 [vA 0, vI t, vI u] σ (.inl (some (.inl D))) s2 ∧ Rel (c + 1) s2 ∧ OTr σ s2 ∧ s2 653 1 = 6 * (D : Int) + 6 ∧ (∀ i, i < 6 * D → s2 654 i = σ 654 i) ∧ (∀ i, i < 6 → s2 654 (6 * D + i) = G i) ∧ (∀ n, n < 6 → -1 ≤ G n ∧ G n ≤ 5) ∧ (∀ n n', n < 6 → n' < 6 → ¬ G n = -1 → G n = G n' → n = n') ∧ (t = u → ∀ n, n < 6 → G n = -1 ∨ G n = (n : Int)) := by
  have e54 := d54_ok (σ := σ) h53
  have e232a := d232_ok (σ := σ) (i := (t : Int)) (n := 3) (by omega)
  have e232b := d232_ok (σ := σ) (i := (u : Int)) (n := 3) (by omega)
  obtain ⟨sm, hsm⟩ : ∃ sm : Nat → Nat → Bool, ∀ n e, n < 6 → e < 6 → (sm n e = true ↔ smP σ (616 + 2 * (6 * t + n)) (616 + 2 * (6 * u + e))) := ⟨fun n e => @decide _ (Classical.propDecidable (smP σ (616 + 2 * (6 * t + n)) (616 + 2 * (6 * u + e)))), fun n e _ _ => ⟨fun h => @of_decide_eq_true _ (Classical.propDecidable _) h, fun h => @decide_eq_true _ (Classical.propDecidable _) h⟩⟩
  obtain ⟨s1, s, c1, c2, c3, c4, c5, c6⟩ := d56 (D := D) (t := t) (u := u) H.1 ht hu h53 hD hsm
  have sf : ∀ a x, ¬ (333 ≤ a ∧ a ≤ 338) → ¬ (a = 343 ∧ x = 1) → ¬ a = 349 → ¬ (653 ≤ a ∧ a ≤ 657) → s a x = σ a x := fun a x y1 y2 y3 y4 => by rw [c6 a x (by omega) (by omega)]; exact c2.2.1 a x y1 y2 y3 (by omega) (by omega) (by omega)
  have J := JTS_sN (hA := hv σ t) (hB := hv σ u) (lk := fun n e => lkF σ (6 * t + n) (6 * u + e)) 6 _ (JTS_pO (sm := sm) 6 _ JTS_0)
  obtain ⟨S, hS⟩ : ∃ S : TS, S = sN (hv σ t) (hv σ u) (fun n e => lkF σ (6 * t + n) (6 * u + e)) 6 (pO (hv σ t) (hv σ u) sm 6 (ts0 (hv σ t) (hv σ u))) := ⟨_, rfl⟩
  rw [← hS] at J c2
  obtain ⟨s2, d1, d2, d3⟩ := fc_join (fc44 (a1 := t) (a2 := u) H) (b216 (Or.inl ⟨_, e232a, Or.inl ⟨_, e232b, Or.inl ⟨_, b239 ⟨_, _, e54, by rw [if_neg (by omega)]⟩, _, _, c1, rfl⟩⟩⟩))
  refine ⟨S.1, s2, d1, d2, fun x k h1 h2 h3 => ?_, by rw [d3 653 (by decide)]; exact c3, fun i hi => ?_, fun i hi => ?_, fun n hn => (J.1 n hn).2, J.2.1, fun e => J.2.2.2 (fun n _ => by rw [e])⟩
  · rw [d3 x h1]
    unfold KP at h2
    exact sf x k (by omega) (by omega) (by omega) (by omega)
  · rw [d3 654 (by decide), c4 i hi]
    exact c2.2.1 654 i (by omega) (by omega) (by omega) (by omega) (by omega) (by omega)
  · rw [d3 654 (by decide), c5 i hi]
    exact (c2.2.2.2 i hi).1
/-- compose -/
theorem c217 {σ : Sg} {c : Int} {a b D : Nat} (H : Rel c σ) (ha : a < D) (hb : b < D) (h53 : σ 653 1 = 6 * (D : Int)) (hD : D < 10) : ∃ s2 : Sg, Dc 217 [vA 0, vI a, vI b] σ (.inl (some (.inl D))) s2 ∧ Rel (c + 1) s2 ∧ OTr σ s2 ∧ s2 653 1 = 6 * (D : Int) + 6 ∧ (∀ i, i < 6 * D → s2 654 i = σ 654 i) ∧ ∀ i, i < 6 → s2 654 (6 * D + i) = cmp6 (σ 654) a b i := by
  have e54 := d54_ok (σ := σ) h53
  have e232a := d232_ok (σ := σ) (i := (a : Int)) (n := (D : Int)) (by omega)
  have e232b := d232_ok (σ := σ) (i := (b : Int)) (n := (D : Int)) (by omega)
  obtain ⟨q1, q2, q3, q4, q5⟩ := H.2.2.2.2.2.2.2.1
  have hF : ∀ i, i < 6 * D → -1 ≤ σ 654 i ∧ σ 654 i ≤ 5 := fun i hi => q5 i (by omega)
  obtain ⟨s1, l2, c1, c2, c3, c4, c5, c6, c7⟩ := l57 (a := a) (b := b) (D := D) (F := σ 654) ha hb hD hF 6 0 (upS σ 655 1 0) [] (by omega) (by rw [up_a (by decide)]; exact h53) (fun i _ => up_a (by decide)) Rw_nil rfl
  have hl2 : ∀ i, i < 6 → l2[i]? = some (cmp6 (σ 654) a b i) := by
    intro i hi
    rw [c2, List.nil_append, List.getElem?_map, List.getElem?_range' hi]
    simp
  have e57 : Dd 57 [vA 614, vI a, vI b] σ (rI D s1) := b57 ⟨_, d152 r653.2.2.1, c1⟩
  obtain ⟨s2, d1, d2, d3⟩ := fc_join (fc45 (a1 := a) (a2 := b) H) (b217 ⟨_, _, e54, Or.inl ⟨_, e232a, _, _, e54, Or.inl ⟨_, e232b, Or.inl ⟨_, b239 ⟨_, _, e54, by rw [if_neg (by omega)]⟩, _, _, e57, rfl⟩⟩⟩⟩)
  refine ⟨s2, d1, d2, fun x k h1 h2 h3 => by rw [d3 x h1, c7 x k (by omega) (by omega) (by omega) (by omega), up_a (by omega)], by rw [d3 653 (by decide)]; exact c3, fun i hi => by rw [d3 654 (by decide)]; exact c4 i hi, fun i hi => by rw [d3 654 (by decide)]; exact c5 i _ (hl2 i hi)⟩
/-- wentTo -/
theorem q218 {σ : Sg} {c : Int} {d n D : Nat} (H : Rel c σ) (h53 : σ 653 1 = 6 * (D : Int)) (hd : d < D) (hD : D ≤ 10) (hn : n < 6) : Dc 218 [vA 0, vI d, vI n] σ (.inl (some (.inl (σ 654 (6 * d + n))))) σ := by
  have e54 := d54_ok (σ := σ) h53
  have e := d55_in (σ := σ) (d := (d : Int)) (n := (n : Int)) (WF_w H.1 r653.1) (by omega) (by omega)
  have ev : atS σ 653 ((d : Int) * 6 + (n : Int)) = σ 654 (6 * d + n) := by
    unfold atS
    rw [if_pos (by omega), show ((d : Int) * 6 + (n : Int)).toNat = 6 * d + n by omega]
  rw [ev] at e
  exact Dc_of (b218 ⟨_, _, e54, Or.inl ⟨_, d232_ok (by omega), Or.inl ⟨_, d232_ok (by omega), _, _, e, rfl⟩⟩⟩)
/-- taken goals as bits -/
theorem tk_1 : ∀ T, T < 64 → ∀ v, v < 6 → iOr ((T : Nat) : Int) (iShl 1 ((v : Nat) : Int)) = ((T ||| 2 ^ v : Nat) : Int) ∧ T ||| 2 ^ v < 64 ∧ ∀ u, u < 6 → (iAnd (iShr ((T ||| 2 ^ v : Nat) : Int) ((u : Nat) : Int)) 1 = 0 ↔ iAnd (iShr ((T : Nat) : Int) ((u : Nat) : Int)) 1 = 0 ∧ ¬ u = v) := by decide +kernel
theorem tk_0 : ∀ T, T < 64 → iOr ((T : Nat) : Int) 0 = ((T : Nat) : Int) := by decide +kernel
theorem tk_z : ∀ u, u < 6 → iAnd (iShr 0 ((u : Nat) : Int)) 1 = 0 := by decide +kernel
theorem ll273a {w : WS} {G : Nat → Int} {b t u D : Nat} {d1 d2 d10 : Option AV} {o : Ro} (hw : ∀ n : Nat, n < 6 → Dc 218 [vA 0, vI D, vI n] w.2.2 (.inl (some (.inl (G n)))) w.2.2) (g1 : ∀ n : Nat, n < 6 → -1 ≤ G n ∧ G n ≤ 5) (g2 : ∀ n n' : Nat, n < 6 → n' < 6 → ¬ G n = -1 → G n = G n' → n = n') (hu : Int.tmod (b : Int) 3 = (u : Int)) (g3 : t = u → ∀ n : Nat, n < 6 → G n = -1 ∨ G n = (n : Int)) : ∀ (d n T r : Nat) (d9 : Option AV), n + d = 6 → T < 64 → (∀ v, v < 6 → (iAnd (iShr ((T : Nat) : Int) ((v : Nat) : Int)) 1 = 0 ↔ ∀ n', n' < n → ¬ G n' = (v : Int))) → (∀ (T' rr : Nat) (d9 : Option AV), r ≤ rr + 2 * d → K273_146 d1 d2 b t D 1 T' 6 d9 d10 w rr o) → 2 * d ≤ r → K273_146 d1 d2 b t D 1 T n d9 d10 w r o := by
  intro d
  induction d with
  | zero =>
    intro n T r d9 hn hT ht K hr
    rw [show n = 6 by omega]
    exact K T r d9 (by omega)
  | succ d ih =>
    intro n T r d9 hn hT ht K hr
    have hn6 : n < 6 := by omega
    have gb := g1 n hn6
    refine bK273_146 ?_
    rw [if_pos (by omega)]
    refine ⟨by omega, G n, _, hw n hn6, ?_⟩
    rw [if_neg (show ¬ (1 : Int) = 0 by decide), wSs]
    have fin : ∀ (T' : Nat), T' < 64 → iOr ((T : Nat) : Int) (if G n = -1 then 0 else iShl 1 (G n)) = ((T' : Nat) : Int) → (∀ v, v < 6 → (iAnd (iShr ((T' : Nat) : Int) ((v : Nat) : Int)) 1 = 0 ↔ ∀ n', n' < n + 1 → ¬ G n' = (v : Int))) → K273_206 d1 d2 b t D (some (.inl 1)) T n (G n) d10 w (r - 2) o := fun T' h1 h2 h3 => by
      refine bK273_206 (bK273_211 (bK273_229 ⟨by omega, ?_⟩))
      rw [h2]
      exact ih (n + 1) T' (r - 2) _ (by omega) h1 h3 (fun T' rr d9 hrr => K T' rr d9 (by omega)) (by omega)
    by_cases z : G n = -1
    · rw [if_pos z]
      refine fin T hT (by rw [if_pos z]; exact tk_0 T hT) (fun v hv => ⟨fun h n' hn' => ?_, fun h => (ht v hv).mpr (fun n' hn' => h n' (by omega))⟩)
      by_cases y : n' = n
      · rw [y, z]; omega
      · exact (ht v hv).mp h n' (by omega)
    · rw [if_neg z, if_pos (by omega)]
      obtain ⟨v, hv⟩ : ∃ v : Nat, G n = (v : Int) := ⟨(G n).toNat, by omega⟩
      have v6 : v < 6 := by omega
      have free : iAnd (iShr ((T : Nat) : Int) (G n)) 1 = 0 := by
        rw [hv]
        exact (ht v v6).mpr (fun n' hn' e => by
          have := g2 n n' hn6 (by omega) z (by rw [hv, e])
          omega)
      rw [if_pos free]
      obtain ⟨k1, k2, k3⟩ := tk_1 T hT v v6
      have go := fin (T ||| 2 ^ v) k2 (by rw [if_neg z, hv]; exact k1) (fun u' hu' => (k3 u' hu').trans ⟨fun h n' hn' => by
        by_cases y : n' = n
        · rw [y, hv]; omega
        · exact (ht u' hu').mp h.1 n' (by omega), fun h => ⟨(ht u' hu').mpr (fun n' hn' => h n' (by omega)), fun e => h n (by omega) (by rw [hv, e])⟩⟩)
      rw [hu]
      by_cases tu : t = u
      · rw [if_pos (by omega), if_pos ((g3 tu n hn6).resolve_left z)]
        exact go
      · rw [if_neg (by omega)]
        exact go
theorem ll273b {w : WS} {D o1 : Nat} {F : Nat → Int} (hF : ∀ i, i < 6 * D → -1 ≤ F i ∧ F i ≤ 5) (h1 : ∀ d n : Nat, d < D → n < 6 → Dc 218 [vA 0, vI d, vI n] w.2.2 (.inl (some (.inl (F (6 * d + n))))) w.2.2) (a : Nat) (hD10 : D ≤ 10) (haD : D = a + 1) (ho : o1 < D) (h2 : ∀ n : Nat, n < 6 → Dc 218 [vA 0, .inl ((a : Int) + 1), vI n] w.2.2 (.inl (some (.inl (cmp6 F a o1 n)))) w.2.2) : ∀ (d n r : Nat), n + d = 6 → 6 * d ≤ r → ∀ (d1 d2 d3 d4 d7 d10 : Option AV), K273_278 d1 d2 d3 d4 a 1 d7 o1 n d10 w r (rO 1 w) := by
  intro d
  induction d with
  | zero =>
    intro n r hn hr d1 d2 d3 d4 d7 d10
    refine bK273_278 ?_
    rw [if_neg (by omega)]
    exact bK273_344 ⟨Or.inr rfl, rfl⟩
  | succ d ih =>
    intro n r hn hr d1 d2 d3 d4 d7 d10
    have hn6 : n < 6 := by omega
    have gb := hF (6 * a + n) (by omega)
    refine bK273_278 ?_
    rw [if_pos (by omega), if_neg (show ¬ (1 : Int) = 0 by decide)]
    refine ⟨by omega, F (6 * a + n), _, h1 a n (by omega) hn6, by omega, by omega, cmp6 F a o1 n, _, h2 n hn6, ?_⟩
    have ec : cmp6 F a o1 n = if F (6 * a + n) = -1 then -1 else F (6 * o1 + (F (6 * a + n)).toNat) := rfl
    by_cases z : F (6 * a + n) = -1
    · rw [if_pos z]
      rw [if_pos z] at ec
      refine bK273_328 (bK273_336 ⟨by omega, ?_⟩)
      rw [if_pos ec, wSs, wSs]
      exact ih (n + 1) (r - 2 - 2) (by omega) (by omega) _ _ _ _ _ _
    · rw [if_neg z]
      rw [if_neg z] at ec
      obtain ⟨v, hv⟩ : ∃ v : Nat, F (6 * a + n) = (v : Int) := ⟨(F (6 * a + n)).toNat, by omega⟩
      rw [hv, tn] at ec
      rw [hv]
      refine ⟨by omega, F (6 * o1 + v), _, h1 o1 v ho (by omega), bK273_328 (bK273_336 ⟨by omega, ?_⟩)⟩
      rw [if_pos ec, wSs, wSs, wSs]
      exact ih (n + 1) (r - 2 - 2 - 2) (by omega) (by omega) _ _ _ _ _ _
theorem ll273c {n a b t : Nat} {w : WS} (L : LI n w) (hn : n ≤ 1000) (ht : t < 3) : ∃ w', LI n w' ∧ Sc w w' ∧ K273_21 (some (vA 682)) (some (.inl (a : Int))) b t none none none none none none w 100 (rO 1 w') := by
  have b6 : b % 6 < 6 := Nat.mod_lt _ (by decide)
  have b5 : b / 6 % 5 < 5 := Nat.mod_lt _ (by decide)
  have em : Int.tmod (b : Int) 6 = ((b % 6 : Nat) : Int) := rfl
  have em2 : Int.tmod (Int.tdiv (b : Int) 6) 5 = ((b / 6 % 5 : Nat) : Int) := rfl
  obtain ⟨v, s1, v1, d1, -, R1, O1, e1, f1⟩ := c215 (t := t) (n := b % 6) (a3 := ((b / 6 % 5 : Nat) : Int) - 1) L.2.1 ht b6 (by omega)
  obtain ⟨v', s2, v1', d2, ev, R2, O2, e2, f2⟩ := c215 (σ := s1) (t := t) (n := b % 6) (a3 := ((b / 6 % 5 : Nat) : Int) - 1) R1 ht b6 (by omega)
  rw [f1] at ev
  have O : OTr w.2.2 s2 := fun x k h1 h2 h3 => (O2 x k h1 h2 h3).trans (O1 x k h1 h2 h3)
  have L1 : LI n (wS w s2) := LI_td (w' := wS w s2) L (Nat.le_refl n) rfl R2 (fun x k h1 h2 h3 _ _ => O x k h1 h2 h3) (fun _ _ _ _ _ => rfl) (by show s2 653 1 = 6 * w.2.1 682 1; rw [e2, e1]; exact L.2.2.2.1) (by show w.2.1 682 2 = s2 658 1; rw [O 658 1 (by decide) (by unfold KP; omega) (by decide)]; exact L.2.2.2.2.1) hn
  refine ⟨wS w s2, L1, Sc_e rfl, bK273_21 ?_⟩
  rw [em, em2]
  refine ⟨by omega, by decide, v, s1, d1, by omega, by decide, v', s2, d2, ?_⟩
  have hv' : v' = if (0 : Int) < ((b / 6 % 5 : Nat) : Int) then 1 else 0 := by
    rw [ev]
    by_cases z : b / 6 % 5 = 0
    · rw [if_pos (by omega), if_neg (by omega)]
    · rw [if_neg (by omega), if_pos (by omega)]
  refine bK273_73 (bK273_81 ?_)
  rw [if_pos hv', if_neg (show ¬ (1 : Int) = 0 by decide), wSS]
  by_cases z : v = 0
  · rw [if_pos z]
    exact bK273_101 (bK273_106 ⟨Or.inr rfl, rfl⟩)
  · rw [if_neg z]
    refine ⟨by decide, _, s2, Dc_of (q175 (σ := s2) (t := 0) (by decide)), ?_⟩
    rw [if_pos (show (0 : Int) ≤ s2 (2 + 2 * 0) 1 from (txl_ok L1.2.1 (t := 0) (by decide)).1), wSS]
    exact bK273_101 (bK273_106 ⟨Or.inr rfl, rfl⟩)
theorem m273 {n a b : Nat} {w : WS} (L : LI n w) (hn : n ≤ 1000) : ∃ w', LI n w' ∧ Sc w w' ∧ Lx 273 [vA 0, vA 682, vI a, vI b] w (rO 1 w') := by
  have ht : a % 3 < 3 := Nat.mod_lt _ (by decide)
  have hu : b % 3 < 3 := Nat.mod_lt _ (by decide)
  have em : Int.tmod (a : Int) 3 = ((a % 3 : Nat) : Int) := rfl
  have em2 : Int.tmod (Int.tdiv (a : Int) 3) 4 = ((a / 3 % 4 : Nat) : Int) := rfl
  have em3 : Int.tmod (b : Int) 3 = ((b % 3 : Nat) : Int) := rfl
  obtain ⟨q1, q2, q3, q4, q5⟩ := L.2.1.2.2.2.2.2.2.2.1
  have h53 := L.2.2.2.1
  obtain ⟨D, hD⟩ := Int.eq_ofNat_of_zero_le q2
  have q41 := q4.1
  have eD : w.2.1 682 1 = (D : Int) := by omega
  have eD' : w.2.1 682 ((1 : Int)).toNat = (D : Int) := eD
  rw [eD] at h53
  by_cases g : a / 3 % 4 = 0
  · by_cases g2 : 8 < D
    · obtain ⟨w', L', S', K'⟩ := ll273c (a := a) (b := b) L hn ht
      refine ⟨w', L', S', lb273 ?_⟩
      rw [em2, if_pos (by omega), em, eD', if_pos (by omega)]
      exact ⟨L.1, ⟨by decide, by decide⟩, K'⟩
    · obtain ⟨G, s1, d1, R1, O1, e1, f1, f2, f3, f4, f5⟩ := c216 (t := a % 3) (u := b % 3) L.2.1 ht hu h53 (by omega)
      obtain ⟨o1, ho1⟩ : ∃ o1, o1 = b / 3 % (D + 1) := ⟨_, rfl⟩
      have ho : o1 < D + 1 := by rw [ho1]; exact Nat.mod_lt _ (by omega)
      have em4 : Int.tmod (Int.tdiv (b : Int) 3) ((D + 1 : Nat) : Int) = (o1 : Int) := by rw [ho1]; rfl
      obtain ⟨s2, d2, R2, O2, e2, k1, k2⟩ := c217 (σ := s1) (a := D) (b := o1) (D := D + 1) R1 (by omega) ho (by rw [e1]; omega) (by omega)
      obtain ⟨w1, hw1⟩ : ∃ w1, w1 = wU w 682 ((1 : Int)).toNat ((D : Int) + 2) := ⟨_, rfl⟩
      have x1 : w1.1 = w.1 := by rw [hw1]; rfl
      have x2 : w1.2.2 = w.2.2 := by rw [hw1]; rfl
      have x3 : ∀ a k, ¬ (a = 682 ∧ k = 1) → w1.2.1 a k = w.2.1 a k := fun a k h => by
        rw [hw1]
        show upS w.2.1 682 1 ((D : Int) + 2) a k = _
        unfold upS
        rw [if_neg h]
      have x4 : w1.2.1 682 1 = (D : Int) + 2 := by rw [hw1]; exact wU_s
      have O : OTr w.2.2 s2 := fun x k h1 h2 h3 => (O2 x k h1 h2 h3).trans (O1 x k h1 h2 h3)
      have L1 : LI n (wS w1 s2) := LI_td (w' := wS w1 s2) L (Nat.le_refl n) x1 R2 (fun x k h1 h2 h3 _ _ => O x k h1 h2 h3) (fun a k _ _ h => x3 a k (by omega)) (by show s2 653 1 = 6 * w1.2.1 682 1; rw [e2, x4]; omega) (by show w1.2.1 682 2 = s2 658 1; rw [x3 682 2 (by decide), O 658 1 (by decide) (by unfold KP; omega) (by decide)]; exact L.2.2.2.2.1) hn
      have sc : Sc w (wS w1 s2) := fun k => by
        have hs : SCR = 1000000000 := rfl
        exact ⟨x3 _ k (by omega), x3 _ k (by omega)⟩
      have dd1 : ∀ n : Nat, n < 6 → Dc 218 [vA 0, vI D, vI n] (wS w1 s1).2.2 (.inl (some (.inl (G n)))) (wS w1 s1).2.2 := fun i hi => by
        have := q218 (d := D) (D := D + 1) R1 (by rw [e1]; omega) (by omega) (by omega) hi
        rw [f2 i hi] at this
        exact this
      have dd2 : ∀ d i : Nat, d < D + 1 → i < 6 → Dc 218 [vA 0, vI d, vI i] (wS w1 s2).2.2 (.inl (some (.inl (s1 654 (6 * d + i))))) (wS w1 s2).2.2 := fun d i hd hi => by
        have := q218 (d := d) (D := D + 2) R2 (by rw [e2]; omega) (by omega) (by omega) hi
        rw [k1 _ (by omega)] at this
        exact this
      have dd3 : ∀ i : Nat, i < 6 → Dc 218 [vA 0, .inl ((D : Int) + 1), vI i] (wS w1 s2).2.2 (.inl (some (.inl (cmp6 (s1 654) D o1 i)))) (wS w1 s2).2.2 := fun i hi => by
        have := q218 (d := D + 1) (D := D + 2) R2 (by rw [e2]; omega) (by omega) (by omega) hi
        rw [k2 i hi] at this
        exact this
      have hF : ∀ i, i < 6 * (D + 1) → -1 ≤ s1 654 i ∧ s1 654 i ≤ 5 := fun i hi => by
        have := R1.2.2.2.2.2.2.2.1.2.2.2.2 i (by rw [e1]; omega)
        exact this
      refine ⟨wS w1 s2, L1, sc, lb273 ?_⟩
      rw [em2, if_pos (by omega), em, eD', if_neg (by omega), em3, ← hw1]
      refine ⟨L.1, ⟨by decide, by decide⟩, L.1, ⟨by decide, by decide⟩, L.1, ⟨by decide, by decide⟩, by omega, L.1, ⟨by decide, by decide⟩, by decide, _, s1, by rw [x2]; exact d1, ?_⟩
      rw [if_pos rfl]
      refine bK273_138 (ll273a (G := G) (u := b % 3) dd1 f3 f4 em3 (fun e => f5 e) 6 0 0 97 none (by omega) (by decide) (fun v hv => ⟨fun _ n' hn' => absurd hn' (Nat.not_lt_zero _), fun _ => tk_z v hv⟩) (fun T' rr d9 hrr => ?_) (by decide))
      refine bK273_146 ?_
      rw [if_neg (by omega), if_neg (show ¬ (1 : Int) = 0 by decide)]
      refine ⟨by omega, by omega, ?_⟩
      rw [show (D : Int) + 1 = ((D + 1 : Nat) : Int) by omega, em4]
      refine ⟨by omega, _, s2, d2, by omega, ?_⟩
      rw [if_pos rfl, wSS]
      exact bK273_273 (ll273b (D := D + 1) hF dd2 D (by omega) rfl ho dd3 6 0 _ (by omega) (by omega) _ _ _ _ _ _)
  · obtain ⟨w', L', S', K'⟩ := ll273c (a := a) (b := b) L hn ht
    refine ⟨w', L', S', lb273 ?_⟩
    rw [em2, if_neg (by omega), em]
    exact K'
end
