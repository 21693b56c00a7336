/-! distance: the reference, and the call. -/
noncomputable section
theorem isLn_le {x : Int} (h : isLn x = true) : 0 ≤ x ∧ x ≤ 1000000 := by
  refine ⟨isLn_nn h, ?_⟩
  rcases isLn_iff.mp h with e | e | e
  · omega
  · rcases e with e | e | e <;> omega
  · omega
theorem d281 {σ : Sg} {l : List (Nat × Nat × Nat × Nat)} {h : Nat} {q : Nat × Nat × Nat × Nat} (K : HK σ 0 0 l) (hl : l.length ≤ 120) (hq : l[h]? = some q) (hb : q.1 + q.2.1 ≤ 100) : Dd 281 [vA 682, vI h] σ (rI ((q.1 + q.2.1 : Nat) : Int) σ) := by
  obtain ⟨v0, v1, v2, v3⟩ := K h q hq
  rw [show 128 * 0 + (0 + h) = h by omega] at v0 v1
  have hlh := (List.getElem?_eq_some_iff.mp hq).1
  refine b281 ⟨by omega, by omega, ?_, ?_⟩
  · rw [show ((h : Nat) : Int).toNat = h by omega, v0, v1]; omega
  · rw [show ((h : Nat) : Int).toNat = h by omega, v0, v1, show ((q.1 : Nat) : Int) + (q.2.1 : Nat) = ((q.1 + q.2.1 : Nat) : Int) by omega]
theorem HK_fr {σ s : Sg} {l : List (Nat × Nat × Nat × Nat)} {wh nn : Nat} (h : ∀ c k, 700 ≤ c ∧ c ≤ 703 → s c k = σ c k) (K : HK σ wh nn l) : HK s wh nn l := by
  intro i q hq
  have := K i q hq
  rw [h _ _ (by decide), h _ _ (by decide), h _ _ (by decide), h _ _ (by decide)]
  exact this
theorem l318c {s0 n h na : Nat} {q : Nat × Nat × Nat × Nat} {l : List (Nat × Nat × Nat × Nat)} {N : Nat → Int} {σ0 : Sg} (hs : s0 < 44) (hna : na ≤ 100) (hl : l.length ≤ 120) (hN : ∀ i, i < na → σ0 686 (100 * s0 + i) = N i) (bN : ∀ i, i < na → 0 ≤ N i ∧ N i ≤ 1000000) (K : HK σ0 0 0 l) (hq : l[h]? = some q) (hb : q.2.2.1 + q.2.2.2 ≤ na) : ∀ (d x : Nat) (σ : Sg) (m : List Int), x + d = q.2.2.2 → (∀ c k, ¬ c = 705 → ¬ (c = 682 ∧ k = 32) → σ c k = σ0 c k) → Rm σ m → m.length + d ≤ 100 → ∃ s, (∀ {o : Rs}, (∀ d4, C318_14 s0 n ((h + 1 : Nat) : Int) d4 s o) → C318_73 s0 n h x σ o) ∧ Rm s (m ++ sq (fun x => 200000 + N x) (q.2.2.1 + x) d) ∧ ∀ c k, ¬ c = 705 → ¬ (c = 682 ∧ k = 32) → s c k = σ0 c k := by
  have hlh := (List.getElem?_eq_some_iff.mp hq).1
  obtain ⟨v0, v1, v2, v3⟩ := K h q hq
  rw [show 128 * 0 + (0 + h) = h by omega] at v0 v1 v2 v3
  intro d
  induction d with
  | zero =>
    intro x σ m hx hF hm hlen
    refine ⟨σ, fun {o} hh => b318_73 ⟨by omega, ?_⟩, by rw [show sq (fun x => 200000 + N x) (q.2.2.1 + x) 0 = [] from rfl, List.append_nil]; exact hm, hF⟩
    rw [show ((h : Nat) : Int).toNat = h by omega, hF _ _ (by omega) (by omega), v3, if_neg (by omega), show (h : Int) + 1 = ((h + 1 : Nat) : Int) by omega]
    exact ⟨by omega, hh _⟩
  | succ d ih =>
    intro x σ m hx hF hm hlen
    obtain ⟨s1, c1, c2, c3⟩ := d319 (v := 200000 + N (q.2.2.1 + x)) hm (by omega)
    obtain ⟨s, a1, a2, a3⟩ := ih (x + 1) s1 (m ++ [200000 + N (q.2.2.1 + x)]) (by omega) (fun c k y1 y2 => by rw [c3 c k y1 y2]; exact hF c k y1 y2) c2 (by rw [List.length_append]; simp; omega)
    have bx := bN (q.2.2.1 + x) (by omega)
    refine ⟨s, fun {o} hh => b318_73 ⟨by omega, ?_⟩, by
      rw [show sq (fun x => 200000 + N x) (q.2.2.1 + x) (d + 1) = (200000 + N (q.2.2.1 + x)) :: sq (fun x => 200000 + N x) (q.2.2.1 + x + 1) d from rfl, app_c]
      exact a2, a3⟩
    have ev : σ 686 (((100 * (s0 : Int)) + ((q.2.2.1 : Nat) : Int)) + (x : Int)).toNat = N (q.2.2.1 + x) := by
      rw [show (((100 * (s0 : Int)) + ((q.2.2.1 : Nat) : Int)) + (x : Int)).toNat = 100 * s0 + (q.2.2.1 + x) by omega, hF _ _ (by omega) (by omega)]
      exact hN _ (by omega)
    rw [show ((h : Nat) : Int).toNat = h by omega, hF 703 h (by omega) (by omega), v3, if_pos (by omega), hF 702 h (by omega) (by omega), v2, ev, show (x : Int) + 1 = ((x + 1 : Nat) : Int) by omega]
    exact ⟨by omega, by omega, by omega, by omega, by omega, by omega, _, c1, by omega, a1 hh⟩
theorem l318b {s0 n h nb : Nat} {q : Nat × Nat × Nat × Nat} {l : List (Nat × Nat × Nat × Nat)} {O : Nat → Int} {σ0 : Sg} (hs : s0 < 44) (hnb : nb ≤ 100) (hl : l.length ≤ 120) (hO : ∀ i, i < nb → σ0 685 (100 * s0 + i) = O i) (bO : ∀ i, i < nb → 0 ≤ O i ∧ O i ≤ 1000000) (K : HK σ0 0 0 l) (hq : l[h]? = some q) (hb : q.1 + q.2.1 ≤ nb) : ∀ (d x : Nat) (σ : Sg) (m : List Int), x + d = q.1 + q.2.1 → (∀ c k, ¬ c = 705 → ¬ (c = 682 ∧ k = 32) → σ c k = σ0 c k) → Rm σ m → m.length + d ≤ 100 → ∃ s, (∀ {o : Rs}, C318_73 s0 n h 0 s o → C318_34 s0 n h x σ o) ∧ Rm s (m ++ sq (fun x => 100000 + O x) x d) ∧ ∀ c k, ¬ c = 705 → ¬ (c = 682 ∧ k = 32) → s c k = σ0 c k := by
  have hlh := (List.getElem?_eq_some_iff.mp hq).1
  intro d
  induction d with
  | zero =>
    intro x σ m hx hF hm hlen
    have e := d281 (σ := σ) (HK_fr (fun c k hc => hF _ _ (by omega) (by omega)) K) hl hq (by omega)
    refine ⟨σ, fun {o} hh => b318_34 ⟨_, _, e, ?_⟩, by rw [show sq (fun x => 100000 + O x) x 0 = [] from rfl, List.append_nil]; exact hm, hF⟩
    rw [if_neg (by omega)]
    exact hh
  | succ d ih =>
    intro x σ m hx hF hm hlen
    have e := d281 (σ := σ) (HK_fr (fun c k hc => hF _ _ (by omega) (by omega)) K) hl hq (by omega)
    obtain ⟨s1, c1, c2, c3⟩ := d319 (v := 100000 + O x) hm (by omega)
    obtain ⟨s, a1, a2, a3⟩ := ih (x + 1) s1 (m ++ [100000 + O x]) (by omega) (fun c k y1 y2 => by rw [c3 c k y1 y2]; exact hF c k y1 y2) c2 (by rw [List.length_append]; simp; omega)
    have bx := bO x (by omega)
    refine ⟨s, fun {o} hh => b318_34 ⟨_, _, e, ?_⟩, by
      rw [show sq (fun x => 100000 + O x) x (d + 1) = (100000 + O x) :: sq (fun x => 100000 + O x) (x + 1) d from rfl, app_c]
      exact a2, a3⟩
    have ev : σ 685 ((100 * (s0 : Int)) + (x : Int)).toNat = O x := by
      rw [show ((100 * (s0 : Int)) + (x : Int)).toNat = 100 * s0 + x by omega, hF _ _ (by omega) (by omega)]
      exact hO _ (by omega)
    rw [if_pos (by omega), ev, show (x : Int) + 1 = ((x + 1 : Nat) : Int) by omega]
    exact ⟨by omega, by omega, by omega, by omega, _, c1, by omega, a1 hh⟩
/-- the reference's laysChanges -/
theorem d318 {s0 nb na : Nat} {O N F : Nat → Int} {σ : Sg} (hs : s0 < 44) (hnb : nb ≤ 100) (hna : na ≤ 100) (V : VF F nb na) (S : Slot σ s0 nb na O N F) (bO : ∀ i, i < nb → 0 ≤ O i ∧ O i ≤ 1000000) (bN : ∀ i, i < na → 0 ≤ N i ∧ N i ≤ 1000000) (hlen : (chg O N (hks F nb na)).length ≤ 60) : ∃ s, Dd 318 [vA 682, vI s0] σ (rV s) ∧ Rm s (chg O N (hks F nb na)) ∧ ∀ c k, ¬ c = 705 → ¬ (c = 682 ∧ k = 32) → ¬ (700 ≤ c ∧ c ≤ 704) → s c k = σ c k := by
  obtain ⟨t1, t2, t3, t4, t5⟩ := S
  obtain ⟨s1, a1, a2, a3, a4, a5⟩ := d280 (s := s0) (wh := 0) (σ := σ) hs (by decide) hnb hna V t1 t2 t5
  obtain ⟨l, hl⟩ : ∃ l, l = hks F nb na := ⟨_, rfl⟩
  have hbd : ∀ q, q ∈ l → q.1 + q.2.1 ≤ nb ∧ q.2.2.1 + q.2.2.2 ≤ na := fun q hq => by
    rw [hl] at hq
    obtain ⟨n, hn⟩ := List.getElem?_of_mem hq
    exact hks_bd V hn
  rw [← hl] at a1 a2 a3 a4 hlen ⊢
  have L : ∀ (d h : Nat) (σ' : Sg) (m : List Int), h + d = l.length → (∀ c k, ¬ c = 705 → ¬ (c = 682 ∧ k = 32) → σ' c k = s1 c k) → Rm σ' m → m.length + (chg O N (l.drop h)).length ≤ 60 → ∃ s, (∀ d4, C318_14 s0 (l.length : Nat) h d4 σ' (rV s)) ∧ Rm s (m ++ chg O N (l.drop h)) ∧ ∀ c k, ¬ c = 705 → ¬ (c = 682 ∧ k = 32) → s c k = s1 c k := by
    intro d
    induction d with
    | zero =>
      intro h σ' m hh hF hm hlen
      refine ⟨σ', fun d4 => b318_14 ?_, ?_, hF⟩
      · rw [if_neg (by omega)]
      · rw [List.drop_eq_nil_of_le (by omega), show chg O N [] = [] from rfl, List.append_nil]
        exact hm
    | succ d ih =>
      intro h σ' m hh hF hm hlen
      have hlt : h < l.length := by omega
      obtain ⟨q, hq⟩ : ∃ q, q = l[h] := ⟨_, rfl⟩
      have hq2 : l[h]? = some q := by rw [hq]; exact List.getElem?_eq_getElem hlt
      obtain ⟨b1, b2⟩ := hbd q (by rw [hq]; exact List.getElem_mem hlt)
      rw [List.drop_eq_getElem_cons hlt, ← hq] at hlen ⊢
      have hlen2 : (chg O N (q :: l.drop (h + 1))).length = 1 + q.2.1 + q.2.2.2 + (chg O N (l.drop (h + 1))).length := by
        show (chl O N q ++ chg O N (l.drop (h + 1))).length = _
        rw [List.length_append, chl_len]
      obtain ⟨s2, c1, c2, c3⟩ := d319 (v := 300000) hm (by omega)
      have hF1 : ∀ c k, ¬ c = 705 → ¬ (c = 682 ∧ k = 32) → s2 c k = s1 c k := fun c k y1 y2 => by rw [c3 c k y1 y2]; exact hF c k y1 y2
      obtain ⟨s3, e1, e2, e3⟩ := l318b (s0 := s0) (n := l.length) (h := h) (q := q) (l := l) (O := O) (σ0 := s1) hs hnb (by omega) (fun i hi => by rw [a5 _ _ (by omega) (by omega)]; exact t3 i hi) bO a2 hq2 b1 q.2.1 q.1 s2 (m ++ [300000]) rfl hF1 c2 (by rw [List.length_append]; simp; omega)
      obtain ⟨s4, f1, f2, f3⟩ := l318c (s0 := s0) (n := l.length) (h := h) (q := q) (l := l) (N := N) (σ0 := s1) hs hna (by omega) (fun i hi => by rw [a5 _ _ (by omega) (by omega)]; exact t4 i hi) bN a2 hq2 b2 q.2.2.2 0 s3 _ (by omega) e3 e2 (by rw [List.length_append, List.length_append, sq_len]; simp; omega)
      rw [Nat.add_zero] at f2
      obtain ⟨s, g1, g2, g3⟩ := ih (h + 1) s4 _ (by omega) f3 f2 (by rw [List.length_append, List.length_append, List.length_append, sq_len, sq_len]; simp; omega)
      obtain ⟨v0, v1, v2, v3⟩ := a2 h q hq2
      rw [show 128 * 0 + (0 + h) = h by omega] at v0
      refine ⟨s, fun d4 => b318_14 ?_, ?_, g3⟩
      · rw [if_pos (by omega)]
        refine ⟨_, c1, by omega, ?_⟩
        rw [show ((h : Nat) : Int).toNat = h by omega, hF1 _ _ (by omega) (by omega), v0]
        exact e1 (f1 g1)
      · rw [chg_c]
        exact g2
  have hn := hks_len V
  rw [← hl] at hn
  obtain ⟨s, e1, e2, e3⟩ := L l.length 0 (upS s1 682 32 0) [] (by omega) (fun c k y1 y2 => by unfold upS; rw [if_neg y2]) Rm_nil (by
    show 0 + (chg O N l).length ≤ 60
    omega)
  exact ⟨s, b318 ⟨_, _, a1, e1 _⟩, e2, fun c k y1 y2 y3 => by rw [e3 c k y1 y2, a5 c k (by omega) (by omega)]⟩
theorem cpCh : isRow 345 = true ∧ cap 345 = 40 ∧ isRow 347 = true ∧ cap 347 = 40 := by decide +kernel
theorem q705 : qA 705 0 160 = true := by decide +kernel
def lv (l : List Int) (i : Nat) : Int := (l[i]?).getD 0
theorem lv_get {l : List Int} {i : Nat} (h : i < l.length) : l[i]? = some (lv l i) := by
  unfold lv
  rw [List.getElem?_eq_getElem h]
  rfl
theorem o22 {σ : Sg} {c a1 a2 : Int} (H : Rel c σ) : OpR 411 320 [vA 0, vI a1, vI a2, vA 726] [vA 682, vI a1, vI a2] σ (c + 1) := by
  by_cases g1 : a1 < 0
  · exact x22_0 H g1
  by_cases g2 : σ 0 3 ≤ a1
  · exact x22_1 H g2
  have k1 : 0 ≤ a1 ∧ a1 < σ 0 3 := by omega
  by_cases g3 : a2 < 0
  · exact x22_2 H k1 g3
  by_cases g4 : σ 0 3 ≤ a2
  · exact x22_3 H k1 g4
  have k2 : 0 ≤ a2 ∧ a2 < σ 0 3 := by omega
  obtain ⟨a, rfl⟩ := Int.eq_ofNat_of_zero_le k1.1
  obtain ⟨b, rfl⟩ := Int.eq_ofNat_of_zero_le k2.1
  have hn := (rel_n H).1
  obtain ⟨hP, q1, q2, w1, w3⟩ := po_pat H k1.2
  obtain ⟨nb, na, b1, b2, N, S⟩ := po_slot q1 q2 w1 w3
  obtain ⟨hQ, r1, r2, y1, y3⟩ := po_pat H k2.2
  obtain ⟨nb', na', b3, b4, N', S'⟩ := po_slot r1 r2 y1 y3
  have e230 := d230_ok (σ := σ) k1 hn.2.2
  have f230 := d230_ok (σ := σ) k2 hn.2.2
  rw [show ((a : Int)).toNat = a by omega] at e230
  rw [show ((b : Int)).toNat = b by omega] at f230
  obtain ⟨i345, c345, i347, c347⟩ := cpCh
  have V := N.2.2.2.2.1
  have V' := N'.2.2.2.2.1
  have n1 := N.1
  have n3 := N.2.1
  have n1' := N'.1
  have n3' := N'.2.1
  have bO : ∀ i, i < nb → 0 ≤ σ (20 + 13 * a + 2) i ∧ σ (20 + 13 * a + 2) i ≤ 1000000 := fun i hi => isLn_le (q2.2.2.2.2.2.2.2.1 i (by omega))
  have bN : ∀ i, i < na → 0 ≤ σ (20 + 13 * a + 4) i ∧ σ (20 + 13 * a + 4) i ≤ 1000000 := fun i hi => isLn_le (q2.2.2.2.2.2.2.2.2.1 i (by omega))
  have bO' : ∀ i, i < nb' → 0 ≤ σ (20 + 13 * b + 2) i ∧ σ (20 + 13 * b + 2) i ≤ 1000000 := fun i hi => isLn_le (r2.2.2.2.2.2.2.2.1 i (by omega))
  have bN' : ∀ i, i < na' → 0 ≤ σ (20 + 13 * b + 4) i ∧ σ (20 + 13 * b + 4) i ≤ 1000000 := fun i hi => isLn_le (r2.2.2.2.2.2.2.2.2.1 i (by omega))
  have bd : ∀ q, q ∈ hks (σ (20 + 13 * a + 6)) nb na → q.1 + q.2.1 ≤ nb ∧ q.2.2.1 + q.2.2.2 ≤ na := fun q hq => by
    obtain ⟨n, hn⟩ := List.getElem?_of_mem hq
    exact hks_bd V hn
  have bd' : ∀ q, q ∈ hks (σ (20 + 13 * b + 6)) nb' na' → q.1 + q.2.1 ≤ nb' ∧ q.2.2.1 + q.2.2.2 ≤ na' := fun q hq => by
    obtain ⟨n, hn⟩ := List.getElem?_of_mem hq
    exact hks_bd V' hn
  have ln := (chg_len (O := σ (20 + 13 * a + 2)) (N := σ (20 + 13 * a + 4)) V (nb + na) 0 0 (VI_0 V) (by omega)).1
  have ln' := (chg_len (O := σ (20 + 13 * b + 2)) (N := σ (20 + 13 * b + 4)) V' (nb' + na') 0 0 (VI_0 V') (by omega)).1
  obtain ⟨l1, hl1⟩ : ∃ l, l = chg (σ (20 + 13 * a + 2)) (σ (20 + 13 * a + 4)) (hks (σ (20 + 13 * a + 6)) nb na) := ⟨_, rfl⟩
  obtain ⟨l2, hl2⟩ : ∃ l, l = chg (σ (20 + 13 * b + 2)) (σ (20 + 13 * b + 4)) (hks (σ (20 + 13 * b + 6)) nb' na') := ⟨_, rfl⟩
  have ln1 : l1.length ≤ 33 := by rw [hl1]; unfold hks; omega
  have ln2 : l2.length ≤ 33 := by rw [hl2]; unfold hks; omega
  obtain ⟨s1, a1', a2', a3'⟩ := d18 (R := 345) hP i345 c345 (by omega) H.1 n1 n3 (fun _ _ => rfl) (fun _ _ => rfl) bO bN (PC_of N (by omega) (by omega)) bd (by rw [← hl1]; omega)
  rw [← hl1] at a2'
  have W1 : WF s1 := WF_row (r := 345) (fun x hx hne => a3' x 1 hne (row_nx i345 hx)) (Rw_wR i345 a2' (by omega)).2 H.1
  have N1 : NP s1 (20 + 13 * b) nb' na' := by
    have e : ∀ j, j ≤ 10 → s1 (20 + 13 * b + j) = σ (20 + 13 * b + j) := fun j hj => funext fun x => a3' _ _ (by omega) (by omega)
    unfold NP PCS
    rw [e 1 (by omega), e 3 (by omega), e 5 (by omega), e 6 (by omega), e 7 (by omega), e 8 (by omega), e 9 (by omega), e 10 (by omega)]
    exact N'
  have e6 : s1 (20 + 13 * b + 6) = σ (20 + 13 * b + 6) := funext fun x => a3' _ _ (by omega) (by omega)
  have PC1 := PC_of N1 (show nb' ≤ 100 by omega) (show na' ≤ 100 by omega)
  rw [e6] at PC1
  obtain ⟨s2, c1, c2, c3⟩ := d18 (R := 347) (O := σ (20 + 13 * b + 2)) (N := σ (20 + 13 * b + 4)) hQ i347 c347 (by omega) W1 N1.1 N1.2.1 (fun i _ => a3' _ _ (by omega) (by omega)) (fun i _ => a3' _ _ (by omega) (by omega)) bO' bN' PC1 bd' (by rw [← hl2]; omega)
  rw [← hl2] at c2
  have W2 : WF s2 := WF_row (r := 347) (fun x hx hne => c3 x 1 hne (row_nx i347 hx)) (Rw_wR i347 c2 (by omega)).2 W1
  have z1 : s2 345 1 = (l1.length : Nat) := by rw [c3 _ _ (by decide) (by decide)]; exact a2'.1
  have z2 : s2 347 1 = (l2.length : Nat) := c2.1
  obtain ⟨s3, e1, W3, e3⟩ := d16 W2 i345 i347 z1 z2 (by omega) (by omega) (by omega) (by omega)
  have f1 : ∀ i, i < l1.length → s2 (345 + 1) i = lv l1 i := fun i hi => by
    rw [c3 _ _ (by decide) (by decide)]
    exact a2'.2 i _ (lv_get hi)
  have f2 : ∀ i, i < l2.length → s2 (347 + 1) i = lv l2 i := fun i hi => c2.2 i _ (lv_get hi)
  rw [lt_cg f1 f2 l1.length l2.length (Nat.le_refl _) (Nat.le_refl _)] at e1
  obtain ⟨L, hL⟩ : ∃ L, L = lt (lv l1) (lv l2) l1.length l2.length l1.length l2.length := ⟨_, rfl⟩
  have bL := lt_b (f := lv l1) (g := lv l2) (ae := l1.length) (be := l2.length) l1.length l2.length
  rw [← hL] at e1 bL
  have d1 := d146 (σ := s2) i345
  have d2 := d146 (σ := s2) i347
  rw [z1] at d1
  rw [z2] at d2
  obtain ⟨D, hD⟩ : ∃ D, D = ((l1.length : Nat) : Int) + (l2.length : Nat) - 2 * L := ⟨_, rfl⟩
  have hA : Dd 411 [vA 0, vI a, vI b, vA 726] σ (rI 0 (upS s3 726 ((0 : Int).toNat) D)) := by
    refine b411 (Or.inl ⟨_, _, b194 (Or.inl ⟨_, _, e230, hP, Or.inl ⟨_, _, f230, hQ, D, s3, b17 ⟨_, a1', _, c1, _, _, d1, _, _, d2, by omega, _, _, e1, by omega, by omega, ?_⟩, rfl⟩⟩), rfl⟩)
    rw [hD]
  have s3f : ∀ x k, ¬ (333 ≤ x ∧ x ≤ 349) → s3 x k = σ x k := fun x k y => by rw [e3 x k (by omega) (by omega) (by omega), c3 x k (by omega) (by omega), a3' x k (by omega) (by omega)]
  obtain ⟨t0, ht0⟩ : ∃ t0, t0 = upS (upS s3 726 ((0 : Int).toNat) D) 682 0 0 := ⟨_, rfl⟩
  have t0f : ∀ x k, ¬ (333 ≤ x ∧ x ≤ 349) → ¬ x = 726 → ¬ (x = 682 ∧ k = 0) → t0 x k = σ x k := by
    intro x k y1 y2 y3
    rw [ht0]
    have : upS (upS s3 726 ((0 : Int).toNat) D) 682 0 0 x k = upS s3 726 ((0 : Int).toNat) D x k := by unfold upS; rw [if_neg y3]
    rw [this, up_a y2]
    exact s3f x k y1
  have S0 : Slot t0 a nb na (σ (20 + 13 * a + 2)) (σ (20 + 13 * a + 4)) (σ (20 + 13 * a + 6)) := Slot_fr (fun x k h => t0f x k (by omega) (by omega) (by omega)) S
  obtain ⟨t1, f3, f4, f5⟩ := d318 (σ := t0) (s0 := a) (by omega) (by omega) (by omega) V S0 bO bN (by rw [← hl1]; omega)
  rw [← hl1] at f4
  obtain ⟨t2, g5, g6, g7, g8⟩ := d263 (A := 705) (off := 0) (n := l1.length) (σ := t1) q705 (by decide) (by decide) (by omega) (by omega) (by decide)
  have t2f : ∀ x k, ¬ (333 ≤ x ∧ x ≤ 349) → ¬ x = 726 → ¬ (x = 682 ∧ (k = 0 ∨ k = 12 ∨ k = 32)) → ¬ (700 ≤ x ∧ x ≤ 705) → ¬ x = 691 → t2 x k = σ x k := fun x k y1 y2 y3 y4 y5 => by rw [g8 x k y5 (by omega), f5 x k (by omega) (by omega) (by omega), t0f x k y1 y2 (by omega)]
  have S2 : Slot t2 b nb' na' (σ (20 + 13 * b + 2)) (σ (20 + 13 * b + 4)) (σ (20 + 13 * b + 6)) := Slot_fr (fun x k h => t2f x k (by omega) (by omega) (by omega) (by omega) (by omega)) S'
  obtain ⟨t3, h3, h4, h5⟩ := d318 (σ := t2) (s0 := b) (by omega) (by omega) (by omega) V' S2 bO' bN' (by rw [← hl2]; omega)
  rw [← hl2] at h4
  obtain ⟨t4, h6, h7, h8, h9⟩ := d264 (A := 705) (off := 0) (n := l2.length) (σ := t3) q705 (by decide) (by decide) (by omega) (by omega) (by decide)
  have v12 : t4 682 12 = (l1.length : Nat) := by rw [h9 _ _ (by decide) (by decide), h5 _ _ (by decide) (by decide) (by decide)]; exact g7
  obtain ⟨t5, i1, i2, i3⟩ := d265 (σ0 := t4) (f := lv l1) (g := lv l2) (Nat.zero_le l1.length) (Nat.zero_le l2.length) (Nat.le_refl l1.length) (Nat.le_refl l2.length) (by omega) (by omega) (fun i hi => by
    rw [h9 _ _ (by decide) (by omega), h5 _ _ (by decide) (by omega) (by decide), g6 i hi, Nat.zero_add]
    exact f4.2 i _ (lv_get hi)) (fun i hi => by
    rw [h7 i hi, Nat.zero_add]
    exact h4.2 i _ (lv_get hi))
  have v694 : t5 694 0 = L := by
    have := i2 0 0 (Nat.le_refl 0) (Nat.zero_le _) (Nat.le_refl 0) (Nat.zero_le _)
    rw [hL]
    exact this
  have hoff : ∀ x k, ¬ (333 ≤ x ∧ x ≤ 349) → ¬ x = 726 → ¬ (x = 682 ∧ (k = 0 ∨ k = 12 ∨ k = 13 ∨ k = 32)) → ¬ (700 ≤ x ∧ x ≤ 705) → ¬ (691 ≤ x ∧ x ≤ 694) → t5 x k = σ x k := fun x k y1 y2 y3 y4 y5 => by
    rw [i3 x k (by omega), h9 x k (by omega) (by omega), h5 x k (by omega) (by omega) (by omega)]
    exact t2f x k y1 y2 (by omega) y4 (by omega)
  have t5o : ∀ x k, ¬ (682 ≤ x ∧ x ≤ 725) → t5 x k = t0 x k := fun x k y => by
    rw [i3 x k (by omega), h9 x k (by omega) (by omega), h5 x k (by omega) (by omega) (by omega), g8 x k (by omega) (by omega), f5 x k (by omega) (by omega) (by omega)]
  have t5k : t5 682 0 = 0 := by
    rw [i3 _ _ (by decide), h9 _ _ (by decide) (by decide), h5 _ _ (by decide) (by decide) (by decide), g8 _ _ (by decide) (by decide), f5 _ _ (by decide) (by decide) (by decide), ht0, up_s]
  have hlo : ∀ x k, x < 682 → t5 x k = s3 x k := fun x k y => by rw [t5o x k (by omega), ht0, up_a (by omega), up_a (by omega)]
  refine op_fin hA (b := D) (s2 := t5) ?_ t5k (fun _ => ?_) (fun x k hx => ?_) (fun x k hx => hoff x k (by omega) (by omega) (by omega) (by omega) (by omega)) (Rel_sc (by omega) (WF_fr (fun x k hx => hlo x k hx) W3) (fun x k hk => hoff x k (by omega) (by omega) (by omega) (by omega) (by omega)) H)
  · refine b320 ⟨_, _, d248_ok (by rw [up_a (by decide), s3f _ _ (by decide)]; omega), ?_⟩
    rw [if_neg (show ¬ (1 : Int) = 0 by decide)]
    refine ⟨_, _, d248_ok (by rw [up_a (by decide), s3f _ _ (by decide)]; omega), ?_⟩
    rw [if_neg (show ¬ (1 : Int) = 0 by decide)]
    refine b320_22 ⟨_, _, d245, ?_⟩
    rw [if_pos rfl, if_neg (show ¬ (1 : Int) = 0 by decide), ← ht0]
    refine ⟨t1, f3, t2, ?_, t3, h3, t4, ?_, t5, ?_, ?_⟩
    · rw [f4.1]; exact g5
    · rw [h4.1]; exact h6
    · rw [v12, h8]; exact i1
    · rw [show ((0 : Int)).toNat = 0 from rfl, v694, i3 _ _ (by decide), i3 _ _ (by decide), v12, h8, hD]
      exact ⟨by omega, by omega, by omega, rfl⟩
  · rw [t5o _ _ (by decide), ht0, up_a (by decide)]; exact up_s
  · rw [up_a (by omega)]; exact s3f x k (by omega)
end
