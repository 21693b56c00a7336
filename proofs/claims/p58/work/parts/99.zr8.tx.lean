/-! Texts, distances, patches put where they were made from. -/
noncomputable section
/-- the rows of changes of a patch -/
def chPt (σ : Sg) (p : Nat) : List Int := chg (σ (20 + 13 * p + 2)) (σ (20 + 13 * p + 4)) (hkP σ (20 + 13 * p))
def dstP (σ : Sg) (p q : Nat) : Int := ((chPt σ p).length : Nat) + ((chPt σ q).length : Nat) - 2 * lt (lv (chPt σ p)) (lv (chPt σ q)) (chPt σ p).length (chPt σ q).length (chPt σ p).length (chPt σ q).length
theorem dst_nn {σ : Sg} {p q : Nat} : 0 ≤ dstP σ p q := by
  have b := lt_b (f := lv (chPt σ p)) (g := lv (chPt σ q)) (ae := (chPt σ p).length) (be := (chPt σ q).length) (chPt σ p).length (chPt σ q).length
  unfold dstP
  omega
theorem dst_swap {σ : Sg} {p q : Nat} : dstP σ p q = dstP σ q p := by
  unfold dstP
  rw [lt_swap]
  omega
theorem lt_self {f : Nat → Int} {n : Nat} : ∀ i, i ≤ n → lt f f n n i i = (i : Nat) := by
  intro i
  induction i with
  | zero => intro _; rfl
  | succ i ih =>
    intro h
    rw [ltq_s, if_pos rfl, ih (by omega)]
    omega
theorem dst_same {σ : Sg} {p q : Nat} (h : chPt σ p = chPt σ q) : dstP σ p q = 0 := by
  unfold dstP
  rw [h, lt_self _ (Nat.le_refl _)]
  omega
theorem q194 {σ : Sg} {c : Int} {a b : Nat} (H : Rel c σ) (ha0 : (a : Int) < σ 0 3) (hb0 : (b : Int) < σ 0 3) : ∃ s, Dc 194 [vA 0, vI a, vI b] σ (.inl (some (.inl (dstP σ a b)))) s ∧ Rel c s ∧ Pe σ s := by
  have k1 : 0 ≤ (a : Int) ∧ (a : Int) < σ 0 3 := by omega
  have k2 : 0 ≤ (b : Int) ∧ (b : Int) < σ 0 3 := by omega
  have hn := (rel_n H).1
  obtain ⟨hP, q1, q2, w1, w3⟩ := po_pat H k1.2
  obtain ⟨nb, na, b1, b2, N, S⟩ := po_slot q1 q2 w1 w3
  obtain ⟨hQ, r1, r2, y1, y3⟩ := po_pat H k2.2
  obtain ⟨nb', na', b3, b4, N', S'⟩ := po_slot r1 r2 y1 y3
  have e230 := d230_ok (σ := σ) k1 hn.2.2
  have f230 := d230_ok (σ := σ) k2 hn.2.2
  rw [show ((a : Int)).toNat = a by omega] at e230
  rw [show ((b : Int)).toNat = b by omega] at f230
  obtain ⟨i345, c345, i347, c347⟩ := cpCh
  have V := N.2.2.2.2.1
  have V' := N'.2.2.2.2.1
  have n1 := N.1
  have n3 := N.2.1
  have n1' := N'.1
  have n3' := N'.2.1
  have bO : ∀ i, i < nb → 0 ≤ σ (20 + 13 * a + 2) i ∧ σ (20 + 13 * a + 2) i ≤ 1000000 := fun i hi => isLn_le (q2.2.2.2.2.2.2.2.1 i (by omega))
  have bN : ∀ i, i < na → 0 ≤ σ (20 + 13 * a + 4) i ∧ σ (20 + 13 * a + 4) i ≤ 1000000 := fun i hi => isLn_le (q2.2.2.2.2.2.2.2.2.1 i (by omega))
  have bO' : ∀ i, i < nb' → 0 ≤ σ (20 + 13 * b + 2) i ∧ σ (20 + 13 * b + 2) i ≤ 1000000 := fun i hi => isLn_le (r2.2.2.2.2.2.2.2.1 i (by omega))
  have bN' : ∀ i, i < na' → 0 ≤ σ (20 + 13 * b + 4) i ∧ σ (20 + 13 * b + 4) i ≤ 1000000 := fun i hi => isLn_le (r2.2.2.2.2.2.2.2.2.1 i (by omega))
  have bd : ∀ q, q ∈ hks (σ (20 + 13 * a + 6)) nb na → q.1 + q.2.1 ≤ nb ∧ q.2.2.1 + q.2.2.2 ≤ na := fun q hq => by
    obtain ⟨n, hn⟩ := List.getElem?_of_mem hq
    exact hks_bd V hn
  have bd' : ∀ q, q ∈ hks (σ (20 + 13 * b + 6)) nb' na' → q.1 + q.2.1 ≤ nb' ∧ q.2.2.1 + q.2.2.2 ≤ na' := fun q hq => by
    obtain ⟨n, hn⟩ := List.getElem?_of_mem hq
    exact hks_bd V' hn
  have ln := (chg_len (O := σ (20 + 13 * a + 2)) (N := σ (20 + 13 * a + 4)) V (nb + na) 0 0 (VI_0 V) (by omega)).1
  have ln' := (chg_len (O := σ (20 + 13 * b + 2)) (N := σ (20 + 13 * b + 4)) V' (nb' + na') 0 0 (VI_0 V') (by omega)).1
  obtain ⟨l1, hl1⟩ : ∃ l, l = chg (σ (20 + 13 * a + 2)) (σ (20 + 13 * a + 4)) (hks (σ (20 + 13 * a + 6)) nb na) := ⟨_, rfl⟩
  obtain ⟨l2, hl2⟩ : ∃ l, l = chg (σ (20 + 13 * b + 2)) (σ (20 + 13 * b + 4)) (hks (σ (20 + 13 * b + 6)) nb' na') := ⟨_, rfl⟩
  have ln1 : l1.length ≤ 33 := by rw [hl1]; unfold hks; omega
  have ln2 : l2.length ≤ 33 := by rw [hl2]; unfold hks; omega
  obtain ⟨s1, a1', a2', a3'⟩ := d18 (R := 345) hP i345 c345 (by omega) H.1 n1 n3 (fun _ _ => rfl) (fun _ _ => rfl) bO bN (PC_of N (by omega) (by omega)) bd (by rw [← hl1]; omega)
  rw [← hl1] at a2'
  have W1 : WF s1 := WF_row (r := 345) (fun x hx hne => a3' x 1 hne (row_nx i345 hx)) (Rw_wR i345 a2' (by omega)).2 H.1
  have N1 : NP s1 (20 + 13 * b) nb' na' := by
    have e : ∀ j, j ≤ 10 → s1 (20 + 13 * b + j) = σ (20 + 13 * b + j) := fun j hj => funext fun x => a3' _ _ (by omega) (by omega)
    unfold NP PCS
    rw [e 1 (by omega), e 3 (by omega), e 5 (by omega), e 6 (by omega), e 7 (by omega), e 8 (by omega), e 9 (by omega), e 10 (by omega)]
    exact N'
  have e6 : s1 (20 + 13 * b + 6) = σ (20 + 13 * b + 6) := funext fun x => a3' _ _ (by omega) (by omega)
  have PC1 := PC_of N1 (show nb' ≤ 100 by omega) (show na' ≤ 100 by omega)
  rw [e6] at PC1
  obtain ⟨s2, c1, c2, c3⟩ := d18 (R := 347) (O := σ (20 + 13 * b + 2)) (N := σ (20 + 13 * b + 4)) hQ i347 c347 (by omega) W1 N1.1 N1.2.1 (fun i _ => a3' _ _ (by omega) (by omega)) (fun i _ => a3' _ _ (by omega) (by omega)) bO' bN' PC1 bd' (by rw [← hl2]; omega)
  rw [← hl2] at c2
  have W2 : WF s2 := WF_row (r := 347) (fun x hx hne => c3 x 1 hne (row_nx i347 hx)) (Rw_wR i347 c2 (by omega)).2 W1
  have z1 : s2 345 1 = (l1.length : Nat) := by rw [c3 _ _ (by decide) (by decide)]; exact a2'.1
  have z2 : s2 347 1 = (l2.length : Nat) := c2.1
  obtain ⟨s3, e1, W3, e3⟩ := d16 W2 i345 i347 z1 z2 (by omega) (by omega) (by omega) (by omega)
  have f1 : ∀ i, i < l1.length → s2 (345 + 1) i = lv l1 i := fun i hi => by
    rw [c3 _ _ (by decide) (by decide)]
    exact a2'.2 i _ (lv_get hi)
  have f2 : ∀ i, i < l2.length → s2 (347 + 1) i = lv l2 i := fun i hi => c2.2 i _ (lv_get hi)
  rw [lt_cg f1 f2 l1.length l2.length (Nat.le_refl _) (Nat.le_refl _)] at e1
  obtain ⟨L, hL⟩ : ∃ L, L = lt (lv l1) (lv l2) l1.length l2.length l1.length l2.length := ⟨_, rfl⟩
  have bL := lt_b (f := lv l1) (g := lv l2) (ae := l1.length) (be := l2.length) l1.length l2.length
  rw [← hL] at e1 bL
  have d1 := d146 (σ := s2) i345
  have d2 := d146 (σ := s2) i347
  rw [z1] at d1
  rw [z2] at d2
  obtain ⟨D, hD⟩ : ∃ D, D = ((l1.length : Nat) : Int) + (l2.length : Nat) - 2 * L := ⟨_, rfl⟩
  have s3f : ∀ x k, ¬ (333 ≤ x ∧ x ≤ 349) → s3 x k = σ x k := fun x k y => by rw [e3 x k (by omega) (by omega) (by omega), c3 x k (by omega) (by omega), a3' x k (by omega) (by omega)]
  have hD2 : dstP σ a b = D := by
    unfold dstP chPt hkP
    rw [N.1, N.2.1, N'.1, N'.2.1, Int.toNat_natCast, Int.toNat_natCast, Int.toNat_natCast, Int.toNat_natCast, ← hl1, ← hl2, ← hL, hD]
  rw [hD2]
  have hA : Dd 194 [vA 0, vI a, vI b] σ (rI D s3) := by
    refine b194 (Or.inl ⟨_, _, e230, hP, Or.inl ⟨_, _, f230, hQ, D, s3, b17 ⟨_, a1', _, c1, _, _, d1, _, _, d2, by omega, _, _, e1, by omega, by omega, ?_⟩, rfl⟩⟩)
    rw [hD]
  exact ⟨s3, Dc_of hA, Rel_sc (Int.le_refl c) W3 (fun x k h => s3f x k (by unfold KP at h; omega)) H, fun x k h1 h2 h3 => s3f x k (by unfold KP at h2; omega)⟩
/-- a text was changed, and nothing else that can be seen -/
def TxN (σ s : Sg) (u n : Nat) (f : Nat → Int) : Prop := (∀ x k, x < 682 → KP x k → ¬ (x = 2 + 2 * u ∨ x = 2 + 2 * u + 1) → s x k = σ x k) ∧ s (2 + 2 * u) 1 = (n : Nat) ∧ ∀ i, i < n → s (2 + 2 * u + 1) i = f i
theorem c172 {σ : Sg} {c l : Int} {t p : Nat} (H : Rel c σ) (ht : t < 4) (hp : (p : Int) ≤ σ (2 + 2 * t) 1) (hl : isLn l = true) (hs : σ (2 + 2 * t) 1 < 16) : ∃ s2, Dc 172 [vA 0, vI t, vI p, vI l] σ (.inl (some (.inl (σ (2 + 2 * t) 1 + 1)))) s2 ∧ Rel (c + 1) s2 ∧ (∀ x k, x < 682 → KP x k → ¬ (x = 2 + 2 * t ∨ x = 2 + 2 * t + 1) → s2 x k = σ x k) ∧ s2 (2 + 2 * t) 1 = σ (2 + 2 * t) 1 + 1 ∧ s2 (2 + 2 * t + 1) p = l := by
  have h := p172 (l := l) H (t := (t : Int)) (p := (p : Int)) (by omega) (by rw [Int.toNat_natCast]; omega) hl (by rw [Int.toNat_natCast]; exact hs)
  rw [Int.toNat_natCast] at h
  obtain ⟨s8, d1, d2, d3⟩ := fc_join (fc0 (a1 := t) (a2 := p) (a3 := l) H) h
  refine ⟨s8, d1, d2, fun x k h1 h2 h3 => by rw [d3 x h1]; exact in_off (by omega) (by omega), by rw [d3 _ (by omega)]; exact in_sz, ?_⟩
  rw [d3 _ (by omega), in_val, if_pos rfl]
theorem c173 {σ : Sg} {c : Int} {t p : Nat} (H : Rel c σ) (ht : t < 4) (hp : (p : Int) < σ (2 + 2 * t) 1) : ∃ s2, Dc 173 [vA 0, vI t, vI p] σ (.inl (some (.inl (σ (2 + 2 * t + 1) p)))) s2 ∧ Rel (c + 1) s2 ∧ (∀ x k, x < 682 → KP x k → ¬ (x = 2 + 2 * t ∨ x = 2 + 2 * t + 1) → s2 x k = σ x k) ∧ s2 (2 + 2 * t) 1 = σ (2 + 2 * t) 1 - 1 := by
  have h := p173 H (t := (t : Int)) (p := (p : Int)) (by omega) (by rw [Int.toNat_natCast]; omega)
  rw [Int.toNat_natCast, Int.toNat_natCast] at h
  obtain ⟨s8, d1, d2, d3⟩ := fc_join (fc1 (a1 := t) (a2 := p) H) h
  exact ⟨s8, d1, d2, fun x k h1 h2 h3 => by rw [d3 x h1]; exact rm_off (by omega) (by omega), by rw [d3 _ (by omega)]; exact rm_sz⟩
theorem c174 {σ : Sg} {c : Int} {t u : Nat} (H : Rel c σ) (ht : t < 4) (hu : u < 4) : ∃ (n : Nat) (s2 : Sg), σ (2 + 2 * t) 1 = (n : Nat) ∧ n ≤ 16 ∧ Dc 174 [vA 0, vI t, vI u] σ (.inl (some (.inl (n : Int)))) s2 ∧ Rel (c + 1) s2 ∧ TxN σ s2 u n (σ (2 + 2 * t + 1)) := by
  have k1 : 0 ≤ (t : Int) ∧ (t : Int) < 4 := by omega
  have k2 : 0 ≤ (u : Int) ∧ (u : Int) < 4 := by omega
  obtain ⟨g1, g2, -⟩ := txl_ok H ht
  obtain ⟨n, hn⟩ := Int.eq_ofNat_of_zero_le g1
  obtain ⟨e, hr1⟩ := txt_ok (σ := σ) ht
  obtain ⟨f, hr2⟩ := txt_ok (σ := σ) hu
  have cc := cp_1 k2
  rw [Int.toNat_natCast] at cc
  have hcp : σ (2 + 2 * t) 1 ≤ (cap (2 + 2 * u) : Int) := by omega
  have d1 := d146 (σ := bcS σ (2 + 2 * u) (2 + 2 * t)) hr2
  rw [bc_sz hcp, hn] at d1
  have hF : Dd 174 [vA 0, vI t, vI u] σ (rI (n : Int) (bcS σ (2 + 2 * u) (2 + 2 * t))) := b174 (Or.inl ⟨_, _, e, hr1, Or.inl ⟨_, _, f, hr2, _, d155 hr2 (WF_w H.1 hr1), _, _, d1, rfl⟩⟩)
  obtain ⟨s8, d1, d2, d3⟩ := fc_join (fc2 (a1 := t) (a2 := u) H) hF
  refine ⟨n, s8, hn, by omega, d1, d2, fun x k h1 h2 h3 => by rw [d3 x h1]; exact bc_off (by omega) (by omega), by rw [d3 _ (by omega), bc_sz hcp]; exact hn, fun i hi => ?_⟩
  rw [d3 _ (by omega)]
  exact bc_val hcp (by omega) (by omega)
theorem rj_home : ∀ (r : List St) (h : Nat) (S : Int), rjF (r.map (fun q => (((q.1 : Nat) : Int), 0))) h S = S := by
  intro r
  induction r with
  | nil => intro h S; rfl
  | cons q r ih =>
    intro h S
    rw [List.map_cons]
    show rjF _ (h + 1) (if ((q.1 : Nat) : Int) = -1 then _ else S) = S
    rw [if_neg (by omega)]
    exact ih _ _
/-- putOn, on the text that the patch was made from -/
theorem c195 {σ : Sg} {c : Int} {a t fz : Nat} (H : Rel c σ) (ha0 : (a : Int) < σ 0 3) (ht : t < 4) (hf : fz ≤ 3) (hs9 : pT σ a 0 t) : ∃ (na : Nat) (s2 : Sg), σ (20 + 13 * a + 3) 1 = (na : Nat) ∧ Dc 195 [vA 0, vI a, vI t, vI fz] σ (.inl (some (.inl 0))) s2 ∧ Rel (c + 1) s2 ∧ (∀ x k, x < 682 → KP x k → ¬ (x = 2 + 2 * t ∨ x = 2 + 2 * t + 1) → ¬ (393 ≤ x ∧ x ≤ 394) → s2 x k = σ x k) ∧ s2 (2 + 2 * t) 1 = (na : Nat) ∧ (∀ i, i < na → s2 (2 + 2 * t + 1) i = σ (20 + 13 * a + 4) i) ∧ s2 393 1 = ((hkP σ (20 + 13 * a)).length : Nat) ∧ ∀ h q, (hkP σ (20 + 13 * a))[h]? = some q → s2 394 h = 10 * (q.1 : Nat) := by
  have k1 : 0 ≤ (a : Int) ∧ (a : Int) < σ 0 3 := by omega
  have k2 : 0 ≤ (t : Int) ∧ (t : Int) < 4 := by omega
  have hn := (rel_n H).1
  have ht4 : t < 4 := by omega
  have ha24 : a < 24 := by omega
  obtain ⟨x1, x2⟩ := H.2.2.2.2.1.2.2.2 a k1.2
  obtain ⟨-, -, -, -, -, -, hP, -⟩ := cpP (p := a) ha24
  obtain ⟨nb, na, hb1, hb2, N, S⟩ := po_slot x1 x2 (WF_w H.1 (pat_1 hP)).2.1 (WF_w H.1 (pat_3 hP)).2.1
  have V := N.2.2.2.2.1
  have rt := rel_t H (t := (t : Int)) k2
  rw [tn] at rt
  obtain ⟨rt1, rt2, rt3⟩ := rt
  obtain ⟨n, hnn⟩ := Int.eq_ofNat_of_zero_le rt2
  have hrow := el_1 (i := (t : Int)) k2
  rw [tn] at hrow
  have hct := cp_1 (i := (t : Int)) k2
  rw [tn] at hct
  have hct : cap (2 + 2 * t) = 16 := by omega
  have hTx := H.2.2.1 t ht4
  have hT : ∀ i, i < n → σ 683 (16 * t + i) = σ (2 + 2 * t + 1) i := fun i hi => (hTx.1.2 i (by omega)).symm
  obtain ⟨Z, hZ⟩ : ∃ Z, Z = puF (σ (20 + 13 * a + 2)) (σ (2 + 2 * t + 1)) nb n fz (hks (σ (20 + 13 * a + 6)) nb na) (hks (σ (20 + 13 * a + 6)) nb na) 0 0 0 := ⟨_, rfl⟩
  obtain ⟨M, hM⟩ : ∃ M, M = mdF (σ (2 + 2 * t + 1)) (σ (20 + 13 * a + 4)) n (hks (σ (20 + 13 * a + 6)) nb na) Z 0 := ⟨_, rfl⟩
  have D := DS_0 V
  have okz : okZ n fz (hks (σ (20 + 13 * a + 6)) nb na) Z 0 := by rw [hZ]; exact puF_ok _ 0 0 0 (Nat.zero_le _)
  obtain ⟨okp, okl⟩ := okZ_p _ Z 0 okz
  have hl := hks_len V
  have lnM : ∀ v, v ∈ M → isLn v = true := by
    rw [hM]
    exact mdF_ln (fun i hi => hTx.2 i (by rw [hnn]; omega)) (fun i hi => x2.2.2.2.2.2.2.2.2.1 i (by rw [N.2.1]; omega)) _ Z 0 0 0 0 D okz
  obtain ⟨cl1, cl2⟩ := d136 (P := 20 + 13 * a) (t := 2 + 2 * t) (n := n) (fz := fz) hP (by omega) hrow.2 (by omega) hct D ⟨by omega, by omega, by omega⟩ (by omega) (by omega) H.1 (PC_of N (by omega) (by omega)) ⟨WF_w H.1 (pat_1 hP), N.1, fun _ _ => rfl⟩ ⟨WF_w H.1 (pat_3 hP), N.2.1, fun _ _ => rfl⟩ ⟨WF_w H.1 hrow.2, hnn, fun _ _ => rfl⟩ hZ hM
  have e230 : Dd 230 [vA 0, vI a] σ (rA (20 + 13 * a) σ) := by
    have z := d230_ok (σ := σ) (k := (a : Int)) k1 (by omega)
    rw [tn] at z
    exact z
  have e227 : Dd 227 [vA 0, vI t] σ (rA (2 + 2 * t) σ) := by
    have z := d227_ok (σ := σ) (t := (t : Int)) k2
    rw [tn] at z
    exact z
  have e234 : Dd 234 [vA 0, vI fz, vI 0, vI 3] σ (rV σ) := d234_ok ⟨by omega, by omega⟩
  have n1 := N.1
  obtain ⟨u1, u2⟩ := hs9
  unfold pl sd at u1
  unfold pl px sd at u2
  rw [if_pos rfl] at u1 u2
  have hnn2 : n = nb := by omega
  subst hnn2
  have hTX : ∀ x, x < n → σ (2 + 2 * t + 1) x = σ (20 + 13 * a + 2) x := fun x hx => (u2 x (by omega)).symm
  have E : EQL (σ (20 + 13 * a + 2)) (σ (20 + 13 * a + 4)) (σ (20 + 13 * a + 6)) n := fun x hx hff => by
    rcases x2.2.2.2.2.1 x (by omega) with z | z
    · exact absurd z hff
    · exact z.2.2.2
  have hM2 : M = rlZ (σ (20 + 13 * a + 4)) 0 na := by rw [hM, hZ]; exact put_home D E hTX
  have hZ2 : Z = (hks (σ (20 + 13 * a + 6)) n na).map (fun q => (((q.1 : Nat) : Int), 0)) := by rw [hZ]; exact pu_home D hTX _ 0 0 rfl (fun q _ => Nat.zero_le _)
  have lM : M.length = na := by rw [hM2]; exact rl_len na 0
  obtain ⟨s, c1, c2, c3, c4, c5, c6⟩ := cl2 (by omega)
  have rj : rjF Z 0 0 = 0 := by rw [hZ2]; exact rj_home _ _ _
  rw [rj] at c5
  have hF : Dd 195 [vA 0, vI a, vI t, vI fz] σ (rI 0 s) := b195 (Or.inl ⟨_, _, e230, hP, Or.inl ⟨_, _, e227, hrow.2, Or.inl ⟨_, e234, 1, s, c1, by rw [if_neg (show ¬ (1 : Int) = 0 by decide)]; exact ⟨_, _, c5, rfl⟩⟩⟩⟩)
  obtain ⟨s8, d1, d2, d3⟩ := fc_join (fc23 (a1 := a) (a2 := t) (a3 := fz) H) hF
  have eh : hkP σ (20 + 13 * a) = hks (σ (20 + 13 * a + 6)) n na := by
    unfold hkP
    rw [N.1, N.2.1, Int.toNat_natCast, Int.toNat_natCast]
  refine ⟨na, s8, N.2.1, d1, d2, fun x k h1 h2 h3 h4 => ?_, ?_, fun i hi => ?_, ?_, fun h q hq => ?_⟩
  · rw [d3 x h1]
    exact c6 x k (by unfold KP at h2; omega) (by omega) (by omega)
  · rw [d3 _ (by omega), c4.1, lM]
  · rw [d3 _ (by omega)]
    refine c4.2 i _ ?_
    rw [hM2, rl_get na 0 i hi, Nat.zero_add]
  · rw [d3 _ (by decide), c3.1, eh, hZ2, List.length_map, List.length_map]
  · rw [d3 _ (by decide)]
    refine c3.2 h _ ?_
    rw [eh] at hq
    rw [hZ2, List.getElem?_map, List.getElem?_map, hq]
    show some (anI (((q.1 : Nat) : Int), 0)) = _
    unfold anI
    rw [if_neg (by show ¬ ((q.1 : Nat) : Int) = -1; omega)]
    congr 1
end
