-- DRAFT b3sp.lean
/-! split, of the class and of the law; two new patches. -/
noncomputable section
theorem c186 {σ : Sg} {c : Int} {a h o d n aa p r : Nat} (H : Rel c σ) (ha : (a : Int) < σ 0 3) (g24 : σ 0 3 < 24) (hq : (hkP σ (20 + 13 * a))[h]? = some (o, d, n, aa)) (hp : p ≤ d) (hr : r ≤ aa) : ∃ (nb na : Nat) (M : List Int), PA σ a nb na ∧ M = spM (σ (20 + 13 * a + 2)) (σ (20 + 13 * a + 4)) nb o n p r ∧ o + d ≤ nb ∧ n + aa ≤ na ∧ M.length = nb + r - p ∧ ((16 < M.length ∧ ∀ a5 : Int, Dc 186 [vA 0, vI a, vI h, vI p, vI r, vI a5] σ (.inr 2) σ) ∨ (M.length ≤ 16 ∧ ∃ k : Nat, σ 0 3 = (k : Nat) ∧ k < 24 ∧
    (∃ s2, Dc 186 [vA 0, vI a, vI h, vI p, vI r, vI 1] σ (.inl (some (.inl k))) s2 ∧ Rel (c + 1) s2 ∧ New σ s2 k nb M.length (σ (20 + 13 * a + 2)) (gv M) ∧ ∀ i, i < nb → s2 (20 + 13 * k + 6) i = gv (spf nb o p r) i) ∧
    ∃ s2, Dc 186 [vA 0, vI a, vI h, vI p, vI r, vI 0] σ (.inl (some (.inl k))) s2 ∧ Rel (c + 1) s2 ∧ New σ s2 k M.length na (gv M) (σ (20 + 13 * a + 4)))) := by
  have k1 : 0 ≤ (a : Int) ∧ (a : Int) < σ 0 3 := by omega
  have hn := (rel_n H).1
  obtain ⟨hP, q1, q2, w1, w3⟩ := po_pat H k1.2
  obtain ⟨nb, na, hb1, hb2, N, S⟩ := po_slot q1 q2 w1 w3
  have e230 := d230_ok (σ := σ) k1 hn.2.2
  rw [show ((a : Int)).toNat = a by omega] at e230
  have ha24 : a < 24 := by omega
  obtain ⟨nbA, naA, A⟩ := PA_of H ha
  have A1 := A.2.2.2.1.1
  have A3 := A.2.2.2.1.2.1
  have z1 := N.1
  have z3 := N.2.1
  have y1 : nbA = nb := by omega
  have y2 : naA = na := by omega
  subst y1
  subst y2
  have C := PC_of N (by omega) (by omega)
  rw [hkP_n N] at hq
  obtain ⟨l, hl⟩ : ∃ l, l = hks (σ (20 + 13 * a + 6)) nbA naA := ⟨_, rfl⟩
  have V := N.2.2.2.2.1
  have D := DS_0 V
  have hlnb := hks_len V
  rw [← hl] at C D hlnb hq
  have e98 := d98' hP C
  have hlt : h < l.length := (List.getElem?_eq_some_iff.mp hq).1
  have bq := (DS_b _ _ _ _ D).2.2 _ (List.mem_of_getElem? hq)
  obtain ⟨e101, e104⟩ := pc_at2 hP (WF_w H.1 (pat_9 hP)) C hq
  have bq1 : o + d ≤ nbA := bq.2.1
  have bq2 : n + aa ≤ naA := bq.2.2.2
  have e101 : Dd 101 [vA (20 + 13 * a), vI h] σ (rI (d : Nat) σ) := e101
  have e104 : Dd 104 [vA (20 + 13 * a), vI h] σ (rI (aa : Nat) σ) := e104
  have e232 := d232_ok (σ := σ) (i := (h : Int)) (n := ((l.length : Nat) : Int)) (by omega)
  have g4 : 0 ≤ (p : Int) ∧ (p : Int) ≤ (d : Nat) := by omega
  have g5 : 0 ≤ (r : Int) ∧ (r : Int) ≤ (aa : Nat) := by omega
  have hMl := sp_len (O := σ (20 + 13 * a + 2)) (N := σ (20 + 13 * a + 4)) (nb := nbA) (o := o) (n := n) (p := p) (q := r) (by omega)
  have hfl := spf_len (nb := nbA) (o := o) (p := p) (q := r) (by omega)
  have hgl := spg_len (F := σ (20 + 13 * a + 6)) (nb := nbA) (o := o) (n := n) (p := p) (q := r) (by omega)
  obtain ⟨M, hM⟩ : ∃ M, M = spM (σ (20 + 13 * a + 2)) (σ (20 + 13 * a + 4)) nbA o n p r := ⟨_, rfl⟩
  obtain ⟨f, hf⟩ : ∃ f, f = spf nbA o p r := ⟨_, rfl⟩
  obtain ⟨g, hg⟩ : ∃ g, g = spg (σ (20 + 13 * a + 6)) nbA o n p r := ⟨_, rfl⟩
  rw [← hM] at hMl
  rw [← hf] at hfl
  rw [← hg] at hgl
  have e146 := d146 (σ := σ) (pat_1 hP)
  rw [N.1] at e146
  refine ⟨nbA, naA, M, A, hM, bq1, bq2, hMl, ?_⟩
  by_cases g6 : 16 < M.length
  · exact Or.inl ⟨g6, fun a5 => Dc_of (b186 (Or.inl ⟨_, _, e230, hP, _, _, e98, Or.inl ⟨_, e232, _, _, e101, Or.inl ⟨_, d234_ok g4, _, _, e104, Or.inl ⟨_, d234_ok g5, _, _, e146, by omega, by omega, by rw [if_pos (by omega)]⟩⟩⟩⟩))⟩
  obtain ⟨s8, b1', b2', b3'⟩ := d11 (σ := σ) (P := 20 + 13 * a) (nb := nbA) (na := naA) (c := h) (o := o) (d := d) (n := n) (aa := aa) (p := p) (q := r) (O := σ (20 + 13 * a + 2)) (N := σ (20 + 13 * a + 4)) (l := l) hP (by omega) ⟨WF_w H.1 (pat_1 hP), N.1, fun _ _ => rfl⟩ ⟨WF_w H.1 (pat_3 hP), N.2.1, fun _ _ => rfl⟩ (WF_w H.1 (pat_9 hP)) C D (by omega) (by omega) (fun i hi e => GDg N q2 i hi e) hq hp hr
  rw [← hM, ← hf, ← hg] at b2'
  have lX : ∀ i, i < nbA → isLn (σ (20 + 13 * a + 2) i) = true := A.2.2.2.2.2.1
  have lZ : ∀ i, i < naA → isLn (σ (20 + 13 * a + 4) i) = true := A.2.2.2.2.2.2
  have lnb : (rlZ (σ (20 + 13 * a + 2)) 0 nbA).length = nbA := rl_len _ _
  have lna : (rlZ (σ (20 + 13 * a + 4)) 0 naA).length = naA := rl_len _ _
  have W8 : WF s8 := FIN8_w H.1 b2' ⟨by show (rlZ (σ (20 + 13 * a + 2)) 0 nbA).length ≤ 96; omega, by show M.length ≤ 96; omega, by show (rlZ (σ (20 + 13 * a + 4)) 0 naA).length ≤ 96; omega⟩ b3'
  have rv : ∀ {X : Nat → Int} {m : Nat} (x : Nat) (v : Int), (rlZ X 0 m)[x]? = some v → v = X x := fun {X m} x v e => by
    have hx := (List.getElem?_eq_some_iff.mp e).1
    rw [rl_len] at hx
    rw [rl_get m 0 x hx, Nat.zero_add] at e
    exact (Option.some.inj e).symm
  have lv : ∀ (x : Nat) (v : Int), M[x]? = some v → isLn v = true := by
    rw [hM]
    unfold spM
    refine ap_ln (ap_ln (fun x v e => ?_) (fun x hx => lZ _ (by omega))) (fun x hx => lX _ (by omega))
    have hx := (List.getElem?_eq_some_iff.mp e).1
    rw [rl_len] at hx
    rw [rv x v e]
    exact lX x (by omega)
  obtain ⟨po1, po2⟩ := FIN8_PO b2' (by omega) (by omega) (by omega) rv rv lv (by rw [lnb]; exact lX) (by rw [lna]; exact lZ)
  have F1 : ∀ a k, a < 682 → KP a k → s8 a k = σ a k := fun a k h1 h2 => b3' a k (by omega) (by omega)
  obtain ⟨pp, hpp⟩ := Int.eq_ofNat_of_zero_le hn.2.1
  have fin : ∀ (a5 : Int) (Q n1 n2 : Nat), isPatch Q = true → 332 ≤ Q → Dd 2 [vA 350, vI a5] s8 (rA Q s8) → PO s8 Q 16 → s8 (Q + 1) 1 = (n1 : Nat) → s8 (Q + 3) 1 = (n2 : Nat) → ∃ s2, Dc 186 [vA 0, vI a, vI h, vI p, vI r, vI a5] σ (.inl (some (.inl pp))) s2 ∧ Rel (c + 1) s2 ∧ New σ s2 pp n1 n2 (s8 (Q + 2)) (s8 (Q + 4)) ∧ ∀ i, i < n1 → s2 (20 + 13 * pp + 6) i = s8 (Q + 6) i := by
    intro a5 Q n1 n2 hQQ hQ2 e2 PQ k1' k2'
    obtain ⟨s9, hs, N9, F9⟩ := stNew (c := c) hpp (by omega) hQQ hQ2 W8 F1 PQ k1' k2'
    obtain ⟨s10, d1, d2, d3⟩ := fc_join (fc14 (a1 := a) (a2 := h) (a3 := p) (a4 := r) (a5 := a5) H) (b186 (Or.inl ⟨_, _, e230, hP, _, _, e98, Or.inl ⟨_, e232, _, _, e101, Or.inl ⟨_, d234_ok g4, _, _, e104, Or.inl ⟨_, d234_ok g5, _, _, e146, by omega, by omega, by
      rw [if_neg (by omega)]
      exact ⟨s8, b1', Q, s8, e2, hQQ, Or.inl ⟨_, _, hs, rfl⟩⟩⟩⟩⟩⟩))
    exact ⟨s10, d1, d2, New_cg N9 d3 (by omega) (fun _ _ => rfl) (fun _ _ => rfl), fun i hi => by rw [d3 _ (by omega)]; exact F9 i hi⟩
  obtain ⟨⟨f1, -, f3, f4, f5, -⟩, ⟨f7, -, f9, f10, f11, -⟩⟩ := b2'
  refine Or.inr ⟨by omega, pp, hpp, by omega, ?_, ?_⟩
  · obtain ⟨s2, d1, d2, d3, d4⟩ := fin 1 351 nbA M.length WDp351.1 (by decide) (b2 (by rw [if_neg (by decide)])) po1 (by rw [f1.1]; exact congrArg _ lnb) f1.2.1
    refine ⟨s2, d1, d2, New_cg d3 (fun _ _ => rfl) (by omega) (fun i hi => ?_) (fun i hi => f4 i _ (gv_at hi)), fun i hi => by rw [d4 i hi, ← hf]; exact f5 i _ (gv_at (by show i < f.length; omega))⟩
    have hi' : i < (rlZ (σ (20 + 13 * a + 2)) 0 nbA).length := by omega
    rw [f3 i _ (gv_at hi'), rv i _ (gv_at hi')]
  · obtain ⟨s2, d1, d2, d3, -⟩ := fin 0 364 M.length naA WDp364.1 (by decide) (b2 (by rw [if_pos rfl])) po2 f7.1 (by rw [f7.2.1]; exact congrArg _ lna)
    refine ⟨s2, d1, d2, New_cg d3 (fun _ _ => rfl) (by omega) (fun i hi => f9 i _ (gv_at hi)) (fun i hi => ?_)⟩
    have hi' : i < (rlZ (σ (20 + 13 * a + 4)) 0 naA).length := by omega
    rw [f10 i _ (gv_at hi'), rv i _ (gv_at hi')]
/-- the split's first half: its one hunk, or none -/
theorem spf_hk {nb o p r : Nat} (h : o + p ≤ nb) : hks (gv (spf nb o p r)) nb (nb + r - p) = if p + r = 0 then [] else [(o, p, o, r)] := by
  have g : ∀ x, x < nb → gv (spf nb o p r) x = if x < o then (x : Int) else if x < o + p then -1 else ((o + r + (x - (o + p)) : Nat) : Int) := by
    intro x hx
    unfold gv spf
    by_cases h1 : x < o
    · rw [if_pos h1, List.append_assoc, List.getElem?_append_left (by rw [rl_len]; exact h1), rl_get _ _ _ h1, Nat.zero_add]
      rfl
    · rw [if_neg h1]
      by_cases h2 : x < o + p
      · rw [if_pos h2, List.getElem?_append_left (by rw [List.length_append, rl_len, rl_len]; exact h2), List.getElem?_append_right (by rw [rl_len]; omega), rl_len, rl_get _ _ _ (by omega)]
        rfl
      · rw [if_neg h2, List.getElem?_append_right (by rw [List.length_append, rl_len, rl_len]; omega), List.length_append, rl_len, rl_len, rl_get _ _ _ (by omega)]
        rfl
  refine DS_hks ?_
  by_cases hz : p + r = 0
  · rw [if_pos hz]
    refine ⟨Nat.zero_le _, Nat.zero_le _, by omega, fun x _ h2 => ?_⟩
    rw [g x h2]
    by_cases h1 : x < o
    · rw [if_pos h1]; congr 1; omega
    · rw [if_neg h1, if_neg (by omega)]; congr 1; omega
  · rw [if_neg hz]
    refine ⟨by show 0 + 0 ≤ o; omega, by show o = 0 + (o - 0); omega, fun x _ h2 => ?_, fun x h1 h2 => ?_, by show 0 < p + r; omega, ?_⟩
    · have h2 : x < o := h2
      rw [g x (by omega), if_pos h2]; congr 1; omega
    · have h1 : o ≤ x := h1
      have h2 : x < o + p := h2
      rw [g x (by omega), if_neg (by omega), if_pos h2]
    · show DS _ nb (nb + r - p) [] (o + p) (o + r) 1
      refine ⟨h, by omega, by omega, fun x h1 h2 => ?_⟩
      rw [g x h2, if_neg (by omega), if_neg (by omega)]
/-- the rows of the patches there were -/
theorem New_row {σ s : Sg} {p nb na a j : Nat} {O N : Nat → Int} (h : New σ s p nb na O N) (ha : a < p) (hp : p < 24) (hj : j ≤ 10) : s (20 + 13 * a + j) = σ (20 + 13 * a + j) := funext fun k => h.2.1 _ k (by omega) (by unfold KP; omega) (by omega) (by omega)
theorem New_pl {σ s : Sg} {p nb na a : Nat} {O N : Nat → Int} (h : New σ s p nb na O N) (ha : a < p) (hp : p < 24) (b : Int) : pl s a b = pl σ a b ∧ ∀ k, px s a b k = px σ a b k := by
  have hb := sd_le b
  refine ⟨?_, fun k => ?_⟩
  · unfold pl; rw [New_row h ha hp (by omega)]
  · unfold px; rw [Nat.add_assoc, New_row h ha hp hb]
theorem New_hkP {σ s : Sg} {p nb na a : Nat} {O N : Nat → Int} (h : New σ s p nb na O N) (ha : a < p) (hp : p < 24) : hkP s (20 + 13 * a) = hkP σ (20 + 13 * a) := by
  unfold hkP
  rw [New_row (j := 6) h ha hp (by decide), New_row (j := 1) h ha hp (by decide), New_row (j := 3) h ha hp (by decide)]
theorem New_0 {σ s : Sg} {p nb na : Nat} {O N : Nat → Int} (h : New σ s p nb na O N) : pl s p 0 = nb ∧ ∀ k : Nat, k < nb → px s p 0 k = O k := by
  unfold pl px sd
  rw [if_pos rfl]
  exact ⟨h.2.2.1, h.2.2.2.2.1⟩
theorem New_1 {σ s : Sg} {p nb na : Nat} {O N : Nat → Int} (h : New σ s p nb na O N) : pl s p 1 = na ∧ ∀ k : Nat, k < na → px s p 1 k = N k := by
  unfold pl px sd
  rw [if_neg (by decide)]
  exact ⟨h.2.2.2.1, h.2.2.2.2.2⟩
theorem PA_0 {σ : Sg} {p nb na : Nat} (A : PA σ p nb na) : pl σ p 0 = nb ∧ (∀ k, px σ p 0 k = σ (20 + 13 * p + 2) k) ∧ pl σ p 1 = na ∧ ∀ k, px σ p 1 k = σ (20 + 13 * p + 4) k := by
  unfold pl px sd
  rw [if_pos rfl, if_neg (by decide)]
  exact ⟨A.2.2.2.1.1, fun _ => rfl, A.2.2.2.1.2.1, fun _ => rfl⟩
theorem New_hk {σ s : Sg} {p nb na : Nat} {O N f : Nat → Int} (h : New σ s p nb na O N) (hf : ∀ i, i < nb → s (20 + 13 * p + 6) i = f i) : hkP s (20 + 13 * p) = hks f nb na := by
  unfold hkP
  rw [h.2.2.1, h.2.2.2.1, Int.toNat_natCast, Int.toNat_natCast]
  exact hkF_congr hf _ _ _
theorem pS_of {σ : Sg} {p q n : Nat} {b e : Int} {O : Nat → Int} (h1 : pl σ p b = n) (h2 : ∀ k : Nat, k < n → px σ p b k = O k) (h3 : pl σ q e = n) (h4 : ∀ k : Nat, k < n → px σ q e k = O k) : pS σ p b q e := ⟨h1.trans h3.symm, fun k hk => by
  have hk : k < n := by omega
  rw [h2 k hk, h4 k hk]⟩
/-- two new ones -/
theorem LI_new2 {n : Nat} {w : WS} {s s' : Sg} {c : Int} {p nb na nb' na' : Nat} {O N O' N' : Nat → Int} (L : LI n w) (hR : Rel c s') (h : New w.2.2 s p nb na O N) (h' : New s s' (p + 1) nb' na' O' N') : LI n (wS (wU w 682 0 ((p : Int) + 2)) s') := by
  have p24 : p + 1 < 24 := by have h1 := (rel_n hR).1; have h2 := h'.1; omega
  refine LI_on (w' := wS (wU w 682 0 ((p : Int) + 2)) s') L rfl hR (fun x k h1 h2 _ _ h5 h6 _ _ => (h'.2.1 x k h1 h2 h6 (by omega)).trans (h.2.1 x k h1 h2 h6 (by omega))) ?_ (fun a k _ _ h3 => ?_) (Or.inr ⟨?_, fun t ht _ k => ⟨(h'.2.1 _ k (by omega) (by unfold KP; omega) (by omega) (by omega)).trans (h.2.1 _ k (by omega) (by unfold KP; omega) (by omega) (by omega)), (h'.2.1 _ k (by omega) (by unfold KP; omega) (by omega) (by omega)).trans (h.2.1 _ k (by omega) (by unfold KP; omega) (by omega) (by omega))⟩⟩)
  · show upS w.2.1 682 0 ((p : Int) + 2) 682 0 = s' 0 3
    rw [up_s, h'.1]
    omega
  · show upS w.2.1 682 0 ((p : Int) + 2) a k = w.2.1 a k
    unfold upS
    rw [if_neg (by omega)]
  · show upS w.2.1 682 0 ((p : Int) + 2) 682 5 = w.2.1 682 5
    rw [up_k (by decide)]
/-- splits -/
theorem m264 {n : Nat} {w : WS} {a h b : Nat} (L : LI n w) (ha : (a : Int) < w.2.2 0 3) (g : w.2.2 0 3 ≤ 21) (hh : h < (hkP w.2.2 (20 + 13 * a)).length) : ∃ w', LI n w' ∧ Sc w w' ∧ Lx 264 [vA 0, vA 682, vI a, vI h, vI b] w (rO 1 w') := by
  obtain ⟨q, hq⟩ : ∃ q, (hkP w.2.2 (20 + 13 * a))[h]? = some q := ⟨_, List.getElem?_eq_getElem hh⟩
  obtain ⟨o, d, nn, aa⟩ := q
  have e0 : w.2.1 682 ((0 : Int)).toNat = w.2.2 0 3 := L.2.2.1
  have dD : Dc 191 [vA 0, vI a, vI h, vI 1] w.2.2 (.inl (some (.inl (d : Int)))) w.2.2 := Dc_of (q191 (w := 1) L.2.1 ha hq (by decide))
  have dA : Dc 191 [vA 0, vI a, vI h, vI 3] w.2.2 (.inl (some (.inl (aa : Int)))) w.2.2 := Dc_of (q191 (w := 3) L.2.1 ha hq (by decide))
  obtain ⟨p, hp⟩ : ∃ p, p = b % (d + 1) := ⟨_, rfl⟩
  obtain ⟨r, hr⟩ : ∃ r, r = b / 17 % (aa + 1) := ⟨_, rfl⟩
  have ep : Int.tmod (b : Int) ((d : Int) + 1) = (p : Int) := by rw [hp]; rfl
  have er : Int.tmod (Int.tdiv (b : Int) 17) ((aa : Int) + 1) = (r : Int) := by rw [hr]; rfl
  have hpd : p ≤ d := by have := Nat.mod_lt b (show 0 < d + 1 by omega); omega
  have hra : r ≤ aa := by have := Nat.mod_lt (b / 17) (show 0 < aa + 1 by omega); omega
  obtain ⟨nb, na, M, A, hM, hb1, hb2, hl, R⟩ := c186 L.2.1 ha (by omega) hq hpd hra
  have hA16 := A.2.1
  have hA16' := A.2.2.1
  rcases R with ⟨hM16, dx⟩ | ⟨hM16, k, hk, k24, ⟨s2, d1, R1, N1, F1⟩, -⟩
  · refine ⟨w, L, Sc_r _, lb264 ⟨L.1, ⟨by decide, by decide⟩, by decide, _, _, dD, by omega, by omega, by decide, _, _, dA, by omega, by omega, by decide, ?_⟩⟩
    rw [ep, er]
    refine ⟨_, _, lb258 ⟨by decide, Or.inr ⟨_, dx 1, rfl⟩⟩, ?_⟩
    rw [if_pos rfl]
    refine ⟨by decide, _, _, Dc_of (b187 (σ := w.2.2) rfl), ?_⟩
    rw [if_pos e0.symm]
    exact bK264_70 ⟨Or.inr rfl, rfl⟩
  have ak : a < k := by omega
  -- the second half
  have A2 : PA s2 a nb na := by
    obtain ⟨a1, a2, a3, a4, a5, a6, a7⟩ := A
    have r2 := New_row (j := 2) N1 ak k24 (by decide)
    have r4 := New_row (j := 4) N1 ak k24 (by decide)
    have r6 := New_row (j := 6) N1 ak k24 (by decide)
    refine ⟨a1, a2, a3, NP_fr (fun c x hc => ?_) a4, by rw [r2, r4, r6]; exact a5, by rw [r2]; exact a6, by rw [r4]; exact a7⟩
    have := New_row (j := c - (20 + 13 * a)) N1 ak k24 (by omega)
    rw [show 20 + 13 * a + (c - (20 + 13 * a)) = c by omega] at this
    rw [this]
  obtain ⟨nb', na', M', A', hM', -, -, hl', R'⟩ := c186 (a := a) (h := h) (o := o) (d := d) (n := nn) (aa := aa) R1 (by rw [N1.1]; omega) (by rw [N1.1]; omega) (by rw [New_hkP N1 ak k24]; exact hq) hpd hra
  have x1 := A'.2.2.2.1.1
  have x2 := A2.2.2.2.1.1
  have x3 := A'.2.2.2.1.2.1
  have x4 := A2.2.2.2.1.2.1
  have y1 : nb' = nb := by omega
  have y2 : na' = na := by omega
  subst y1
  subst y2
  rw [New_row (j := 2) N1 ak k24 (by decide), New_row (j := 4) N1 ak k24 (by decide), ← hM] at hM'
  subst hM'
  rcases R' with ⟨hM16', -⟩ | ⟨-, k', hk', k24', -, s3, d2, R2, N2⟩
  · omega
  have hkk : k' = k + 1 := by have := N1.1; omega
  subst hkk
  have L3 := LI_new2 L R2 N1 N2
  obtain ⟨wB, hwB⟩ : ∃ wB, wB = wS (wU w 682 0 ((k : Int) + 2)) s3 := ⟨_, rfl⟩
  have cB : wB.2.2 0 3 = (k : Int) + 2 := by rw [hwB]; show s3 0 3 = _; rw [N2.1]; omega
  have sB : wB.2.2 = s3 := by rw [hwB]; rfl
  have scB : Sc w wB := by rw [hwB]; exact Sc_u (by decide) rfl
  rw [← hwB] at L3
  obtain ⟨u1, u2, u3, u4⟩ := PA_0 A
  have z0 := New_0 N1
  have z1 := New_1 N1
  have z2 := New_0 N2
  have z3 := New_1 N2
  obtain ⟨v0, v0'⟩ := New_pl N2 (a := k) (by omega) k24' 0
  obtain ⟨v1, v1'⟩ := New_pl N2 (a := k) (by omega) k24' 1
  obtain ⟨t0, t0'⟩ := New_pl N2 (a := a) (by omega) k24' 0
  obtain ⟨t1, t1'⟩ := New_pl N2 (a := a) (by omega) k24' 1
  obtain ⟨q0, q0'⟩ := New_pl N1 (a := a) ak k24 0
  obtain ⟨q1, q1'⟩ := New_pl N1 (a := a) ak k24 1
  have S1 : pS wB.2.2 k 0 a 0 := by
    rw [sB]
    exact pS_of (n := nb') (O := w.2.2 (20 + 13 * a + 2)) (by rw [v0]; exact z0.1) (fun i hi => by rw [v0']; exact z0.2 i hi) (by rw [t0, q0]; exact u1) (fun i hi => by rw [t0', q0']; exact u2 i)
  have S2 : pS wB.2.2 k 1 (k + 1) 0 := by
    rw [sB]
    exact pS_of (n := M'.length) (O := gv M') (by rw [v1]; exact z1.1) (fun i hi => by rw [v1']; exact z1.2 i hi) z2.1 z2.2
  have S3 : pS wB.2.2 (k + 1) 1 a 1 := by
    rw [sB]
    refine pS_of (n := na') (O := w.2.2 (20 + 13 * a + 4)) z3.1 (fun i hi => ?_) (by rw [t1, q1]; exact u3) (fun i hi => by rw [t1', q1']; exact u4 i)
    rw [z3.2 i hi, New_row (j := 4) N1 ak k24 (by decide)]
  have f1 := (m252 (p := k) (q := a) (b := 0) (e := 0) L3.2.1 (by omega) (by omega)).1 S1
  have f2 := (m252 (p := k) (q := k + 1) (b := 1) (e := 0) L3.2.1 (by omega) (by omega)).1 S2
  have f3 := (m252 (p := k + 1) (q := a) (b := 1) (e := 1) L3.2.1 (by omega) (by omega)).1 S3
  obtain ⟨w5, W5, f5⟩ := m253 (p := k) L3.2.1 (by omega)
  have c5 := Wi_c W5
  obtain ⟨w6, W6', f6⟩ := m253 (p := k + 1) W5.1 (by omega)
  have W6 := Wi_t W5 W6'
  have c6 := Wi_c W6
  have dH : Dc 190 [vA 0, vI k] w6.2.2 (.inl (some (.inl (if (p : Int) + r = 0 then 0 else 1)))) w6.2.2 := by
    have := Dc_of (q190 (σ := w6.2.2) (p := k) W6.1 (by omega))
    have e1 : hkP w6.2.2 (20 + 13 * k) = if p + r = 0 then [] else [(o, p, o, r)] := by
      rw [Wi_hk W6 (by omega), sB, New_hkP N2 (by omega) k24', New_hk N1 F1, hl, spf_hk (by omega)]
    rw [e1] at this
    by_cases hz : p + r = 0
    · rw [if_pos hz] at this
      rw [if_pos (by omega)]
      exact this
    · rw [if_neg hz] at this
      rw [if_neg (by omega)]
      exact this
  have g1 := m250 (p := k) (b := 1) W6.1 (by omega)
  have g2 := m250 (p := a) (b := 0) W6.1 (by omega)
  have e5 : pl w6.2.2 k 1 = (M'.length : Nat) := by rw [(Wi_pl W6 (by omega) 1).1, sB, v1]; exact z1.1
  have e6 : pl w6.2.2 a 0 = (nb' : Nat) := by rw [(Wi_pl W6 (by omega) 0).1, sB, t0, q0]; exact u1
  rw [e5] at g1
  rw [e6] at g2
  refine ⟨w6, LI_W L3 W6, Sc_t scB (Sc_e W6.2.2.1), lb264 ⟨L.1, ⟨by decide, by decide⟩, by decide, _, _, dD, by omega, by omega, by decide, _, _, dA, by omega, by omega, by decide, ?_⟩⟩
  rw [ep, er]
  refine ⟨_, _, lb258 ⟨by decide, Or.inl ⟨_, _, d1, rfl⟩⟩, ?_⟩
  rw [if_neg (show ¬ (k : Int) = -2 by omega)]
  have e0' : (wS w s2).2.1 682 ((0 : Int)).toNat = (k : Int) := e0.trans hk
  refine ⟨L.1, ⟨by decide, by decide⟩, ?_⟩
  simp only [wSs]
  rw [e0', e0, hk]
  refine ⟨by omega, L.1, ⟨by decide, by decide⟩, ?_⟩
  rw [if_pos rfl]
  refine ⟨by decide, _, _, d2, by omega, ?_⟩
  rw [if_pos (show ((k + 1 : Nat) : Int) = (k : Int) + 1 from rfl)]
  have hwB' : wB = wS (wU (wS w s2) 682 ((0 : Int)).toNat ((k : Int) + 2)) s3 := hwB
  rw [← hwB']
  refine ⟨by decide, _, _, f1, ?_⟩
  rw [if_neg (by decide)]
  refine ⟨by omega, by decide, _, _, f2, ?_⟩
  rw [if_neg (by decide)]
  refine ⟨by omega, by decide, _, _, f3, ?_⟩
  rw [if_neg (by decide)]
  refine bK264_149 ?_
  rw [if_neg (by decide)]
  refine ⟨by decide, _, _, f5, ?_⟩
  rw [if_neg (by decide)]
  refine ⟨by omega, by decide, _, _, f6, ?_⟩
  rw [if_neg (by decide)]
  refine ⟨by decide, _, _, dH, by omega, bK264_195 ?_⟩
  rw [if_pos rfl]
  refine ⟨by decide, _, _, g1, by decide, _, _, g2, by omega, by omega, ?_⟩
  rw [if_pos (by omega)]
  exact bK264_225 ⟨Or.inr rfl, rfl⟩
end
