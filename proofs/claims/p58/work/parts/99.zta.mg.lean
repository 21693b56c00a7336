/-! merge and resolve, of the class and of the law. -/
noncomputable section
/-- two patches merged: lines, and how many conflicts -/
def mgP (σ : Sg) (a b nb na nc : Nat) : List Int × Nat := mgF (σ (20 + 13 * a + 2)) (σ (20 + 13 * a + 4)) (σ (20 + 13 * b + 4)) nb (hks (σ (20 + 13 * a + 6)) nb na) (hks (σ (20 + 13 * b + 6)) nb nc) ((hks (σ (20 + 13 * a + 6)) nb na).length + (hks (σ (20 + 13 * b + 6)) nb nc).length) 0 0 0
theorem pS_sm {σ : Sg} {a b nb na nb' nc : Nat} (N : NP σ (20 + 13 * a) nb na) (N' : NP σ (20 + 13 * b) nb' nc) : pS σ a 0 b 0 ↔ nb = nb' ∧ ∀ i, i < nb → σ (20 + 13 * a + 2) i = σ (20 + 13 * b + 2) i := by
  have z1 := N.1
  have z2 := N'.1
  unfold pS pl px sd
  rw [if_pos rfl]
  constructor
  · intro ⟨u1, u2⟩
    exact ⟨by omega, fun i hi => u2 i (by omega)⟩
  · intro ⟨u1, u2⟩
    exact ⟨by omega, fun i hi => u2 i (by omega)⟩
theorem pS_smP {σ : Sg} {a b : Nat} : pS σ a 0 b 0 ↔ smP σ (20 + 13 * a + 1) (20 + 13 * b + 1) := by
  unfold pS pl px sd
  rw [if_pos rfl]
  exact Iff.rfl
theorem c197x {σ : Sg} {c : Int} {a b t : Nat} (H : Rel c σ) (ha : (a : Int) < σ 0 3) (hb : (b : Int) < σ 0 3) (ht : t < 4) (hs : ¬ pS σ a 0 b 0) : Dc 197 [vA 0, vI a, vI b, vI t] σ (.inr 2) σ := by
  have hn := (rel_n H).1
  obtain ⟨hP, -⟩ := po_pat H ha
  obtain ⟨hQ, -⟩ := po_pat H hb
  have k3 : 0 ≤ (t : Int) ∧ (t : Int) < 4 := by omega
  have hrow := el_1 (i := (t : Int)) k3
  rw [tn] at hrow
  have e230 : ∀ x : Nat, 0 ≤ (x : Int) ∧ (x : Int) < σ 0 3 → Dd 230 [vA 0, vI x] σ (rA (20 + 13 * x) σ) := fun x hx => by
    have z := d230_ok (σ := σ) (k := (x : Int)) hx (by omega)
    rw [tn] at z
    exact z
  have e227 : Dd 227 [vA 0, vI t] σ (rA (2 + 2 * t) σ) := by
    have z := d227_ok (σ := σ) (t := (t : Int)) k3
    rw [tn] at z
    exact z
  have e156 := d156_f (WF_w H.1 (pat_1 hP)) (WF_w H.1 (pat_1 hQ)) (fun h => hs (pS_smP.mpr h))
  exact Dc_of (b197 (Or.inl ⟨_, _, e230 a (by omega), hP, Or.inl ⟨_, _, e230 b (by omega), hQ, Or.inl ⟨_, _, e227, hrow.2, 0, σ, e156, by rw [if_pos rfl]⟩⟩⟩))
theorem c197 {σ : Sg} {c : Int} {a b t : Nat} (H : Rel c σ) (ha : (a : Int) < σ 0 3) (hb : (b : Int) < σ 0 3) (ht : t < 4) (hs : pS σ a 0 b 0) : ∃ (nb na nc : Nat), PA σ a nb na ∧ PA σ b nb nc ∧ mgD (σ (20 + 13 * a + 6)) (σ (20 + 13 * b + 6)) (σ (20 + 13 * a + 2)) (σ (20 + 13 * a + 4)) (σ (20 + 13 * b + 4)) nb na nc (hks (σ (20 + 13 * a + 6)) nb na) (hks (σ (20 + 13 * b + 6)) nb nc) ∧
    ((16 < (mgP σ a b nb na nc).1.length ∧ ∃ s, Dc 197 [vA 0, vI a, vI b, vI t] σ (.inr 2) s ∧ Rel c s ∧ Pe σ s) ∨ ((mgP σ a b nb na nc).1.length ≤ 16 ∧ ∃ s2, Dc 197 [vA 0, vI a, vI b, vI t] σ (.inl (some (.inl ((mgP σ a b nb na nc).2 : Nat)))) s2 ∧ Rel (c + 1) s2 ∧ TxN σ s2 t (mgP σ a b nb na nc).1.length (gv (mgP σ a b nb na nc).1))) := by
  have hn := (rel_n H).1
  have k1 : 0 ≤ (a : Int) ∧ (a : Int) < σ 0 3 := by omega
  have k2 : 0 ≤ (b : Int) ∧ (b : Int) < σ 0 3 := by omega
  have k3 : 0 ≤ (t : Int) ∧ (t : Int) < 4 := by omega
  obtain ⟨nb, na, A⟩ := PA_of H ha
  obtain ⟨nb', nc, B⟩ := PA_of H hb
  obtain ⟨hP, -⟩ := po_pat H ha
  obtain ⟨hQ, -⟩ := po_pat H hb
  have N := A.2.2.2.1
  have N' := B.2.2.2.1
  have hb1 := A.2.1
  have hb2 := A.2.2.1
  have hb4 := B.2.2.1
  obtain ⟨en, eX⟩ := (pS_sm N N').mp hs
  subst en
  have hrow := el_1 (i := (t : Int)) k3
  rw [tn] at hrow
  have hct := cp_1 (i := (t : Int)) k3
  rw [tn] at hct
  have e230 : ∀ x : Nat, 0 ≤ (x : Int) ∧ (x : Int) < σ 0 3 → Dd 230 [vA 0, vI x] σ (rA (20 + 13 * x) σ) := fun x hx => by
    have z := d230_ok (σ := σ) (k := (x : Int)) hx (by omega)
    rw [tn] at z
    exact z
  have e227 : Dd 227 [vA 0, vI t] σ (rA (2 + 2 * t) σ) := by
    have z := d227_ok (σ := σ) (t := (t : Int)) k3
    rw [tn] at z
    exact z
  have V := N.2.2.2.2.1
  have V' := N'.2.2.2.2.1
  have l1 := hks_len V
  have l2 := hks_len V'
  have M : mgD (σ (20 + 13 * a + 6)) (σ (20 + 13 * b + 6)) (σ (20 + 13 * a + 2)) (σ (20 + 13 * a + 4)) (σ (20 + 13 * b + 4)) nb na nc (hks (σ (20 + 13 * a + 6)) nb na) (hks (σ (20 + 13 * b + 6)) nb nc) := ⟨hb1, hb2, hb4, by omega, by omega, DS_0 V, DS_0 V', A.2.2.2.2.1, fun i hi e => by rw [eX i hi]; exact B.2.2.2.2.1 i hi e⟩
  have C : mgC σ (20 + 13 * a) (20 + 13 * b) nb na nc (σ (20 + 13 * a + 2)) (σ (20 + 13 * a + 4)) (σ (20 + 13 * b + 4)) (hks (σ (20 + 13 * a + 6)) nb na) (hks (σ (20 + 13 * b + 6)) nb nc) := ⟨H.1, PC_of N (by omega) (by omega), PC_of N' (by omega) (by omega), ⟨WF_w H.1 (pat_1 hP), N.1, fun _ _ => rfl⟩, ⟨WF_w H.1 (pat_3 hP), N.2.1, fun _ _ => rfl⟩, ⟨WF_w H.1 (pat_3 hQ), N'.2.1, fun _ _ => rfl⟩⟩
  obtain ⟨s, c1, c2, c3, c4⟩ := d76 hP hQ (by omega) (by omega) M C
  refine ⟨nb, na, nc, A, B, M, ?_⟩
  obtain ⟨mm, hmm⟩ : ∃ mm, mm = mgP σ a b nb na nc := ⟨_, rfl⟩
  have c1 : Dd 76 [vA 399, vA (20 + 13 * a), vA (20 + 13 * b)] σ (rI ((mgP σ a b nb na nc).2 : Nat) s) := c1
  have c2 : Rw s 400 (mgP σ a b nb na nc).1 := c2
  rw [← hmm] at c1 c2 ⊢
  have e156 := d156_t (WF_w H.1 (pat_1 hP)) (WF_w H.1 (pat_1 hQ)) (pS_smP.mp hs)
  have e146 := d146 (σ := s) rw400.1
  rw [c2.1] at e146
  by_cases g7 : 16 < mm.1.length
  · refine Or.inl ⟨g7, s, Dc_of (b197 (Or.inl ⟨_, _, e230 a k1, hP, Or.inl ⟨_, _, e230 b k2, hQ, Or.inl ⟨_, _, e227, hrow.2, 1, σ, e156, by
        rw [if_neg (show ¬ (1 : Int) = 0 by decide)]
        refine ⟨_, s, c1, _, _, e146, ?_⟩
        rw [if_pos (by omega)]⟩⟩⟩)), Rel_sc (Int.le_refl c) c3 (fun x k h => c4 x k (by unfold KP at h; omega)) H, fun x k h1 h2 h3 => c4 x k (by unfold KP at h2; omega)⟩
  · have d1 := d155 (σ := s) (a := 2 + 2 * t) (b := 400) hrow.2 (WF_w c3 rw400.1)
    have cc : s 400 1 ≤ (cap (2 + 2 * t) : Int) := by rw [c2.1]; omega
    obtain ⟨s3, hs3⟩ : ∃ s3, s3 = bcS s (2 + 2 * t) 400 := ⟨_, rfl⟩
    rw [← hs3] at d1
    have R3 : Rw s3 (2 + 2 * t) mm.1 := ⟨by rw [hs3, bc_sz cc]; exact c2.1, fun i v h => by
      have hi := (List.getElem?_eq_some_iff.mp h).1
      rw [hs3, bc_val cc (by omega) (by rw [c2.1]; omega)]
      exact c2.2 i v h⟩
    have f3 : ∀ c x, ¬ c = 2 + 2 * t → ¬ c = 2 + 2 * t + 1 → s3 c x = s c x := fun c x h h' => by rw [hs3]; exact bc_off h h'
    obtain ⟨v, hv⟩ : ∃ v : Int, v = (mm.2 : Nat) := ⟨_, rfl⟩
    obtain ⟨s8, d8, R8, E8⟩ := fc_join (fc25 (a1 := a) (a2 := b) (a3 := t) H) (v := v) (b197 (Or.inl ⟨_, _, e230 a k1, hP, Or.inl ⟨_, _, e230 b k2, hQ, Or.inl ⟨_, _, e227, hrow.2, 1, σ, e156, by
        rw [if_neg (show ¬ (1 : Int) = 0 by decide)]
        refine ⟨_, s, c1, _, _, e146, ?_⟩
        rw [if_neg (by omega)]
        exact ⟨s3, d1, by rw [hv]⟩⟩⟩⟩))
    rw [hv] at d8
    refine Or.inr ⟨by omega, s8, d8, R8, fun x k h1 h2 h3 => ?_, ?_, fun i hi => ?_⟩
    · rw [E8 x h1, f3 x k (by omega) (by omega)]
      exact c4 x k (by unfold KP at h2; omega)
    · rw [E8 _ (by omega)]; exact R3.1
    · rw [E8 _ (by omega)]; exact R3.2 i _ (gv_at hi)
/-- resolve -/
theorem c199 {σ : Sg} {c a3 : Int} {t x : Nat} (H : Rel c σ) (ht : t < 4) (hx : x < cnF (σ (2 + 2 * t + 1)) (σ (2 + 2 * t) 1).toNat (σ (2 + 2 * t) 1).toNat 0) (g4 : 1 ≤ a3 ∧ a3 ≤ 3) : ∃ (n p q r : Nat) (s2 : Sg), σ (2 + 2 * t) 1 = (n : Nat) ∧ n ≤ 16 ∧ cfP (σ (2 + 2 * t + 1)) n p ∧ q = nm (σ (2 + 2 * t + 1)) n p ∧ r = nm (σ (2 + 2 * t + 1)) n q ∧ p < q ∧ q < r ∧ r < n ∧ Dc 199 [vA 0, vI t, vI x, vI a3] σ (.inl (some (.inl ((rsL (σ (2 + 2 * t + 1)) a3 n p q r).length : Nat)))) s2 ∧ Rel (c + 1) s2 ∧ TxN σ s2 t (rsL (σ (2 + 2 * t + 1)) a3 n p q r).length (gv (rsL (σ (2 + 2 * t + 1)) a3 n p q r)) := by
  have k1 : 0 ≤ (t : Int) ∧ (t : Int) < 4 := by omega
  obtain ⟨n, h16, hn, hm, w, hf⟩ := cf_two H (t := t) (by omega)
  rw [hn, Int.toNat_natCast] at hx
  have e227 := d227_ok (σ := σ) k1
  have hcap := cp_1 k1
  rw [show ((t : Int)).toNat = t by omega] at e227 hcap
  have dA := d82 (f := fun i => σ (2 + 2 * t + 1) i) w hn (fun i _ => rfl)
  have g3 : 0 ≤ (x : Int) ∧ (x : Int) < (cnF (fun i => σ (2 + 2 * t + 1) i) n n 0 : Nat) := ⟨by omega, by exact Int.ofNat_lt.mpr hx⟩
  have e232 := d232_ok (σ := σ) g3
  have e234 := d234_ok (σ := σ) g4
  obtain ⟨q1, q2, q3⟩ := plF_ok n 0 x (by omega) hx
  obtain ⟨p, hp⟩ : ∃ p, p = plF (σ (2 + 2 * t + 1)) n n 0 x := ⟨_, rfl⟩
  rw [← hp] at q2 q3
  obtain ⟨q, hq⟩ : ∃ q, q = nm (σ (2 + 2 * t + 1)) n p := ⟨_, rfl⟩
  obtain ⟨r, hr⟩ : ∃ r, r = nm (σ (2 + 2 * t + 1)) n q := ⟨_, rfl⟩
  have z1 : p < q := by rw [hq]; exact nm_ge
  have z2 : q < r := by rw [hr]; exact nm_ge
  have z3 : r < n := by
    have := q3.2.2
    rw [← hq, ← hr] at this
    exact fat_lt (by decide) this
  obtain ⟨s, b1, b2, b3, b4⟩ := p85 (x := x) w (by omega) hn h16 (by omega) g4 hp hq hr hx z1 z2 z3
  have hA : Dd 199 [vA 0, vI t, vI x, vI a3] σ (rI (s (2 + 2 * t) 1) s) := b199 (Or.inl ⟨_, _, e227, w.1, _, _, dA, Or.inl ⟨_, e232, Or.inl ⟨_, e234, _, b1, _, _, d146 w.1, rfl⟩⟩⟩)
  rw [b2.1] at hA
  obtain ⟨s8, d8, R8, E8⟩ := fc_join (fc27 (a1 := t) (a2 := x) (a3 := a3) H) hA
  refine ⟨n, p, q, r, s8, hn, h16, q3, hq, hr, z1, z2, z3, d8, R8, fun y k h1 h2 h3 => ?_, ?_, fun i hi => ?_⟩
  · rw [E8 y h1]
    exact b4 y k (by omega) (by omega) (by unfold KP at h2; omega) (by unfold KP at h2; omega)
  · rw [E8 _ (by omega)]; exact b2.1
  · rw [E8 _ (by omega)]; exact b2.2 i _ (gv_at hi)
theorem sg_gv {f : Nat → Int} {l : List Int} (h : ∀ i, i < l.length → f i = gv l i) : sg f 0 l.length = l := by
  unfold sg
  refine List.ext_getElem? (fun i => ?_)
  rw [List.getElem?_map]
  by_cases hi : i < l.length
  · rw [List.getElem?_range (by omega)]
    show some (f (0 + i)) = l[i]?
    rw [Nat.zero_add, h i hi]
    exact (gv_at hi).symm
  · rw [List.getElem?_eq_none (by omega : l.length ≤ i), List.getElem?_eq_none (by rw [List.length_range]; omega)]
    rfl
/-- a text that is not the stack's -/
theorem LI_t2 {n : Nat} {w : WS} {s : Sg} {c : Int} {t : Nat} (L : LI n w) (h5 : ¬ w.2.1 682 5 = (t : Int) + 1) (hR : Rel c s) (h : ∀ x k, x < 682 → KP x k → ¬ (x = 2 + 2 * t ∨ x = 2 + 2 * t + 1) → ¬ (393 ≤ x ∧ x ≤ 394) → s x k = w.2.2 x k) (ht : t < 4) : LI n (wS w s) := by
  have e : wS (wU w 682 5 (c5n (w.2.1 682 5) t)) s = wS w s := by
    have : c5n (w.2.1 682 5) t = w.2.1 682 5 := by unfold c5n; rw [if_neg h5]
    rw [this]
    show (w.1, upS w.2.1 682 5 (w.2.1 682 5), s) = (w.1, w.2.1, s)
    have : upS w.2.1 682 5 (w.2.1 682 5) = w.2.1 := funext fun a => funext fun k => by
      unfold upS
      by_cases hc : a = 682 ∧ k = 5
      · rw [if_pos hc, hc.1, hc.2]
      · rw [if_neg hc]
    rw [this]
  rw [← e]
  exact LI_txt L hR h ht
/-- marks in a patch -/
theorem mkd_rw {σ s : Sg} {p : Nat} {b : Int} (h : SRw σ s p) : mkd s p b ↔ mkd σ p b := by
  unfold mkd
  rw [(SRw_pl h b).1]
  exact ⟨fun ⟨k, h1, h2⟩ => ⟨k, h1, by rw [← (SRw_pl h b).2]; exact h2⟩, fun ⟨k, h1, h2⟩ => ⟨k, h1, by rw [(SRw_pl h b).2]; exact h2⟩⟩
theorem mkd_no {σ : Sg} {p nb na : Nat} (A : PA σ p nb na) (h : ¬ (mkd σ p 0 ∨ mkd σ p 1)) : (∀ i, i < nb → ¬ mkP (σ (20 + 13 * p + 2) i)) ∧ ∀ i, i < na → ¬ mkP (σ (20 + 13 * p + 4) i) := by
  obtain ⟨u1, u2, u3, u4⟩ := PA_0 A
  refine ⟨fun i hi hm => h (Or.inl ⟨i, by omega, ?_⟩), fun i hi hm => h (Or.inr ⟨i, by omega, ?_⟩)⟩
  · rw [u2]; rcases hm with e | e | e <;> rw [e] <;> decide
  · rw [u4]; rcases hm with e | e | e <;> rw [e] <;> decide
theorem SRw_tx {σ s : Sg} {t n a : Nat} {f : Nat → Int} (h : TxN σ s t n f) (ht : t < 4) (ha : a < 24) : SRw σ s a := fun j hj => funext fun k => h.1 _ k (by omega) (by unfold KP; omega) (by omega)
theorem TxN_c {σ s : Sg} {t n : Nat} {f : Nat → Int} (h : TxN σ s t n f) (ht : t < 4) : s 0 3 = σ 0 3 := h.1 0 3 (by decide) (by unfold KP; omega) (by omega)
/-- how many conflicts a text has -/
theorem q198n {σ : Sg} {c : Int} {t n : Nat} (H : Rel c σ) (ht : t < 4) (hn : σ (2 + 2 * t) 1 = (n : Nat)) : Dc 198 [vA 0, vI t] σ (.inl (some (.inl (cn3 (mks (sg (σ (2 + 2 * t + 1)) 0 n)) : Nat)))) σ := by
  have h := q198 H ht
  rw [hn, Int.toNat_natCast, cnF_cn n 0 (Nat.zero_add _)] at h
  exact Dc_of h
theorem tx_cn {σ s : Sg} {t : Nat} {l : List Int} (h : TxN σ s t l.length (gv l)) : sg (s (2 + 2 * t + 1)) 0 l.length = l := sg_gv h.2.2
theorem cn3_len : ∀ l : List Int, cn3 l ≤ l.length := by
  intro l
  induction l with
  | nil => exact Nat.le_refl _
  | cons a t ih =>
    rw [cn3_c, List.length_cons]
    split <;> omega
/-- the conflicts are resolved, one by one -/
theorem ll266 {n : Nat} {w0 : WS} {p q t side : Nat} {d1 d7 : Option AV} (hp : (p : Int) < w0.2.2 0 3) (hq : (q : Int) < w0.2.2 0 3) (hc0 : w0.2.2 0 3 ≤ 24) (ht : t < 4) : ∀ (d l r : Nat) (w : WS) (d10 : Option AV), l ≤ d → LI n w → SRw w0.2.2 w.2.2 p → SRw w0.2.2 w.2.2 q → w.2.2 0 3 = w0.2.2 0 3 → ¬ w.2.1 682 5 = (t : Int) + 1 → w.2.2 (2 + 2 * t) 1 = (l : Nat) → (¬ (mkd w0.2.2 p 0 ∨ mkd w0.2.2 p 1) → ¬ (mkd w0.2.2 q 0 ∨ mkd w0.2.2 q 1) → ∃ i, mks (sg (w.2.2 (2 + 2 * t + 1)) 0 l) = t3 i) → 103 * l + 1 ≤ r → ∃ w', LI n w' ∧ Sc w w' ∧ K266_168 d1 p q t side 1 d7 (cn3 (mks (sg (w.2.2 (2 + 2 * t + 1)) 0 l)) : Nat) l d10 w r (rO 1 w') := by
  intro d
  induction d with
  | zero =>
    intro l r w d10 hl L _ _ _ _ hn _ _
    have hl0 : l = 0 := by omega
    subst hl0
    refine ⟨w, L, Sc_r _, bK266_168 ?_⟩
    have e0 : cn3 (mks (sg (w.2.2 (2 + 2 * t + 1)) 0 0)) = 0 := by rw [sg_nil (Nat.le_refl _)]; rfl
    rw [e0, if_neg (by decide)]
    exact bK266_308 ⟨Or.inr rfl, rfl⟩
  | succ d ih =>
    intro l r w d10 hl L Sp Sq hc h5 hn hm hr
    obtain ⟨cn, hcn⟩ : ∃ cn, cn = cn3 (mks (sg (w.2.2 (2 + 2 * t + 1)) 0 l)) := ⟨_, rfl⟩
    rw [← hcn]
    by_cases h0 : cn = 0
    · refine ⟨w, L, Sc_r _, bK266_168 ?_⟩
      rw [if_neg (by omega)]
      exact bK266_308 ⟨Or.inr rfl, rfl⟩
    have l16 := (txl_ok L.2.1 ht).2.1
    have e1 : Int.tmod (side : Int) (cn : Int) = ((side % cn : Nat) : Int) := rfl
    have e2 : (1 : Int) + Int.tmod (Int.tdiv (side : Int) 16) 3 = ((1 + side / 16 % 3 : Nat) : Int) := rfl
    have b3 : side / 16 % 3 < 3 := Nat.mod_lt _ (by decide)
    have bx : side % cn < cn := Nat.mod_lt _ (by omega)
    obtain ⟨l', p0, q0, r0, s2, z0, z16, zc, zq, zr, z1, z2, z3, d2, R2, T2⟩ := c199 (a3 := ((1 + side / 16 % 3 : Nat) : Int)) (x := side % cn) L.2.1 ht (by
      rw [hn, Int.toNat_natCast, cnF_cn l 0 (Nat.zero_add _), ← hcn]
      exact bx) (by omega)
    have ll : l' = l := by omega
    subst ll
    obtain ⟨MA, MB, f1, f2⟩ := mks_res (x := ((1 + side / 16 % 3 : Nat) : Int)) zc zq zr
    have f3 := rsL_len (f := w.2.2 (2 + 2 * t + 1)) (x := ((1 + side / 16 % 3 : Nat) : Int)) z1 z2 z3
    obtain ⟨R, hR⟩ : ∃ R, R = rsL (w.2.2 (2 + 2 * t + 1)) ((1 + side / 16 % 3 : Nat) : Int) l' p0 q0 r0 := ⟨_, rfl⟩
    rw [← hR] at d2 T2 f2 f3
    have tx := tx_cn T2
    have L2 : LI n (wS w s2) := LI_t2 L h5 R2 (fun x k h1 h2 h3 _ => T2.1 x k h1 h2 h3) ht
    have g1 : Dc 175 [vA 0, vI t] s2 (.inl (some (.inl (R.length : Int)))) s2 := by
      have := Dc_of (q175 (σ := s2) ht)
      rw [T2.2.1] at this
      exact this
    obtain ⟨cn', hcn'⟩ : ∃ cn', cn' = cn3 (mks R) := ⟨_, rfl⟩
    have g2 : ∀ {s : Sg}, Rel 1000 s → s (2 + 2 * t) 1 = (R.length : Nat) → s (2 + 2 * t + 1) = s2 (2 + 2 * t + 1) → Dc 198 [vA 0, vI t] s (.inl (some (.inl (cn' : Int)))) s := fun {s} hs h1 h2 => by
      have := q198n hs ht h1
      rw [h2, tx, ← hcn'] at this
      exact this
    have hle : cn' ≤ cn := by
      rw [hcn', hcn, f1, f2]
      exact cn3_le MA
    have cn16 : cn' ≤ R.length := by
      rw [hcn']
      exact Nat.le_trans (cn3_len _) (List.length_filter_le _ _)
    have cnl : cn ≤ l' := by
      rw [hcn]
      refine Nat.le_trans (cn3_len _) (Nat.le_trans (List.length_filter_le _ _) ?_)
      rw [sg_len]
      omega
    have S2p := SRw_t Sp (SRw_tx T2 ht (by omega))
    have S2q := SRw_t Sq (SRw_tx T2 ht (by omega))
    have c2 := TxN_c T2 ht
    obtain ⟨vp, vp1, vp2, mp⟩ := m265 (w := wS w s2) (p := p) L2.2.1 (by show _ < s2 0 3; omega)
    obtain ⟨vq, vq1, vq2, mq⟩ := m265 (w := wS w s2) (p := q) L2.2.1 (by show _ < s2 0 3; omega)
    have vp2 : vp = 1 ↔ mkd w0.2.2 p 0 ∨ mkd w0.2.2 p 1 := vp2.trans (by rw [show (wS w s2).2.2 = s2 from rfl, mkd_rw S2p, mkd_rw S2p])
    have vq2 : vq = 1 ↔ mkd w0.2.2 q 0 ∨ mkd w0.2.2 q 1 := vq2.trans (by rw [show (wS w s2).2.2 = s2 from rfl, mkd_rw S2q, mkd_rw S2q])
    have hm' : ¬ (mkd w0.2.2 p 0 ∨ mkd w0.2.2 p 1) → ¬ (mkd w0.2.2 q 0 ∨ mkd w0.2.2 q 1) → cn' + 1 = cn ∧ ∃ i, mks R = t3 i := fun h1 h2 => by
      obtain ⟨i, hi⟩ := hm h1 h2
      rw [f1] at hi
      obtain ⟨k, hk, e⟩ := t3_res MA i hi.symm
      rw [hcn', hcn, f1, f2, hi, e, cn3_t3, cn3_t3]
      exact ⟨hk.symm, k, rfl⟩
    have e5 : (wS w s2).2.2 (2 + 2 * t + 1) = s2 (2 + 2 * t + 1) := rfl
    obtain ⟨w', L', S', K'⟩ := ih R.length (r - 3 - 1 - 1 - 150 - 150 - 1 - 1) (wS w s2) (some (.inl (R.length : Int))) (by omega) L2 S2p S2q (c2.trans hc) h5 T2.2.1 (fun h1 h2 => by
      rw [e5, tx]
      exact (hm' h1 h2).2) (by omega)
    rw [e5, tx, ← hcn'] at K'
    refine ⟨w', L', S', bK266_168 ?_⟩
    rw [if_pos (by omega), if_neg (by decide), e1, e2]
    refine ⟨by omega, by omega, by omega, _, _, d2, by omega, ?_⟩
    rw [if_pos (by omega)]
    refine ⟨by omega, _, _, g1, ?_⟩
    rw [if_pos rfl]
    refine ⟨by omega, _, _, g2 (L2.2.1) T2.2.1 rfl, ?_⟩
    rw [if_pos (by omega)]
    have K290 : ∀ (rr : Nat) (d8 : Option AV), r - 3 - 1 - 1 - 150 - 150 - 1 ≤ rr → K266_290 d1 p q t side (some (.inl 1)) d7 d8 R.length (some (.inl (R.length : Int))) (wS w s2) rr (rO 1 w') := fun rr d8 hrr => by
      refine bK266_290 (bK266_295 ⟨by omega, _, _, g2 L2.2.1 T2.2.1 rfl, ?_⟩)
      exact Lg_mono (Nat.sub_le_sub_right hrr 1) K'
    simp only [wSs]
    refine bK266_236 ?_
    rw [if_neg (by decide)]
    refine ⟨by omega, _, _, mp, ?_⟩
    by_cases hvp : vp = 0
    · rw [if_pos hvp]
      refine ⟨by omega, _, _, mq, ?_⟩
      by_cases hvq : vq = 0
      · rw [if_pos hvq]
        obtain ⟨hc1, -⟩ := hm' (fun h => by have := vp2.mpr h; omega) (fun h => by have := vq2.mpr h; omega)
        refine ⟨by omega, _, _, g2 L2.2.1 T2.2.1 rfl, by omega, ?_⟩
        rw [if_pos (by omega)]
        exact K290 _ _ (by omega)
      · rw [if_neg hvq]
        refine bK266_263 ⟨by omega, _, _, g2 L2.2.1 T2.2.1 rfl, ?_⟩
        rw [if_pos (by omega)]
        exact K290 _ _ (by omega)
    · rw [if_neg hvp]
      refine bK266_263 ⟨by omega, _, _, g2 L2.2.1 T2.2.1 rfl, ?_⟩
      rw [if_pos (by omega)]
      exact K290 _ _ (by omega)
/-- merges -/
theorem m266 {n : Nat} {w : WS} {p q t side : Nat} (L : LI n w) (hp : (p : Int) < w.2.2 0 3) (hq : (q : Int) < w.2.2 0 3) (ht : t < 4) : ∃ w', LI n w' ∧ Sc w w' ∧ Lx 266 [vA 0, vA 682, vI p, vI q, vI t, vI side] w (rO 1 w') := by
  have hn := (rel_n L.2.1).1
  -- with itself
  obtain ⟨nb, na, nc, A, B, M, X⟩ := c197 (a := p) (b := p) L.2.1 hp hp ht ⟨rfl, fun _ _ => rfl⟩
  obtain ⟨-, y2⟩ := PA_u A B
  subst y2
  have hA2 := A.2.2.1
  have self : mgP w.2.2 p p nb nc nc = (rlZ (w.2.2 (20 + 13 * p + 4)) 0 nc, 0) := merge_self (by have := A.2.1; omega) M.2.2.2.2.2.1 M.2.2.2.2.2.2.2.1 (by omega)
  rw [self] at X
  have ln : (rlZ (w.2.2 (20 + 13 * p + 4)) 0 nc).length = nc := rl_len _ _
  rcases X with ⟨hx, -⟩ | ⟨-, s1, d1, R1, T1⟩
  · have hx : 16 < (rlZ (w.2.2 (20 + 13 * p + 4)) 0 nc).length := hx
    omega
  have d1 : Dc 197 [vA 0, vI p, vI p, vI t] w.2.2 (.inl (some (.inl 0))) s1 := d1
  have T1 : TxN w.2.2 s1 t (rlZ (w.2.2 (20 + 13 * p + 4)) 0 nc).length (gv (rlZ (w.2.2 (20 + 13 * p + 4)) 0 nc)) := T1
  have L1 := LI_txt L R1 (fun x k h1 h2 h3 _ => T1.1 x k h1 h2 h3) ht
  obtain ⟨w1, hw1⟩ : ∃ w1, w1 = wS (wU w 682 5 (c5n (w.2.1 682 5) t)) s1 := ⟨_, rfl⟩
  have s1e : w1.2.2 = s1 := by rw [hw1]; rfl
  have c5 : w1.2.1 682 5 = c5n (w.2.1 682 5) t := by rw [hw1]; show upS w.2.1 682 5 (c5n (w.2.1 682 5) t) 682 5 = _; exact up_s
  have c5' : ¬ w1.2.1 682 5 = (t : Int) + 1 := by
    rw [c5]
    unfold c5n
    by_cases h : w.2.1 682 5 = (t : Int) + 1
    · rw [if_pos h]; omega
    · rw [if_neg h]; exact h
  have sc1 : Sc w w1 := by rw [hw1]; exact Sc_u (by decide) rfl
  rw [← hw1] at L1
  have P1 := SRw_tx T1 ht (a := p) (by omega)
  have Q1 := SRw_tx T1 ht (a := q) (by omega)
  have n1 := TxN_c T1 ht
  rw [← s1e] at P1 Q1 n1
  have pT1 : pT w1.2.2 p 1 t := by
    obtain ⟨u1, u2, u3, u4⟩ := PA_0 (SRw_PA P1 A)
    unfold pT
    rw [u3, s1e, T1.2.1, ln]
    refine ⟨rfl, fun k hk => ?_⟩
    rw [← s1e, u4, P1 4 (by decide), s1e, T1.2.2 k (by omega)]
    unfold gv
    rw [rl_get nc 0 k (by omega), Nat.zero_add]
    rfl
  have f1 := m251 (p := p) (b := 1) (t := t) L1.2.1 (by omega) ht pT1
  have top : ∀ {w'}, K266_47 (some (vA 682)) p q t side none none none none none 1 w1 (2900 - 5 - 150) (rO 1 w') → Lx 266 [vA 0, vA 682, vI p, vI q, vI t, vI side] w (rO 1 w') := fun {w'} hK => by
    refine lb266 ⟨L.1, ⟨by decide, by decide⟩, by omega, fun _ => L.1, fun _ => ⟨by decide, by decide⟩, bK266_19 ⟨L.1, ⟨by decide, by decide⟩, by decide, _, _, d1, ?_⟩⟩
    rw [if_pos rfl]
    have hw1' : w1 = wS (wU w 682 ((5 : Int)).toNat (if w.2.1 682 ((5 : Int)).toNat = (t : Int) + 1 then 0 else w.2.1 682 ((5 : Int)).toNat)) s1 := hw1
    rw [← hw1']
    refine ⟨by decide, _, _, f1, ?_⟩
    rw [if_neg (by decide)]
    exact hK
  obtain ⟨h0, h1⟩ := m252 (p := p) (q := q) (b := 0) (e := 0) (w := w1) L1.2.1 (by omega) (by omega)
  by_cases hs : pS w1.2.2 p 0 q 0
  · obtain ⟨nb2, na2, nc2, A2, B2, M2, X2⟩ := c197 (a := p) (b := q) (t := t) L1.2.1 (by omega) (by omega) ht hs
    rcases X2 with ⟨-, s2, d2, R2, P2⟩ | ⟨g16, s2, d2, R2, T2⟩
    · -- too long
      have W2 := Wi_s (Wi_r L1.2.1) R2 P2
      have c2 := Wi_c W2
      have L2 := LI_W L1 W2
      have pT2 := (Wi_pT W2 (p := p) (t := t) (b := 1) (by omega) ht).mpr pT1
      have hs2 := (Wi_pS W2 (p := p) (q := q) (b := 0) (e := 0) (by omega) (by omega)).mpr hs
      have f2 := (m252 (p := p) (q := q) (b := 0) (e := 0) (w := wS w1 s2) L2.2.1 (by omega) (by omega)).1 hs2
      have f3 := m251 (p := p) (b := 1) (t := t) L2.2.1 (by omega) ht pT2
      refine ⟨wS w1 s2, L2, Sc_t sc1 (Sc_e rfl), top (bK266_47 ⟨by decide, _, _, lb259 ⟨by decide, Or.inr ⟨_, d2, rfl⟩⟩, by decide, _, _, f2, ?_⟩)⟩
      rw [if_neg (by decide), if_pos rfl, if_neg (by decide)]
      refine ⟨by decide, _, _, f3, ?_⟩
      rw [if_neg (by decide)]
      exact bK266_116 ⟨Or.inr rfl, rfl⟩
    · -- merged
      obtain ⟨mm, hmm⟩ : ∃ mm, mm = mgP w1.2.2 p q nb2 na2 nc2 := ⟨_, rfl⟩
      rw [← hmm] at d2 g16 T2
      have L2 : LI n (wS w1 s2) := LI_t2 L1 c5' R2 (fun x k h1 h2 h3 _ => T2.1 x k h1 h2 h3) ht
      have P2 := SRw_tx T2 ht (a := p) (by omega)
      have Q2 := SRw_tx T2 ht (a := q) (by omega)
      have n2 := TxN_c T2 ht
      have f2 := (m252 (p := p) (q := q) (b := 0) (e := 0) (w := wS w1 s2) L2.2.1 (by show _ < s2 0 3; omega) (by show _ < s2 0 3; omega)).1 (SRw_pS P2 Q2 hs)
      have tx := tx_cn T2
      have g2 := q198n (σ := s2) (t := t) R2 ht T2.2.1
      rw [tx] at g2
      have mk : ¬ (mkd w1.2.2 p 0 ∨ mkd w1.2.2 p 1) → ¬ (mkd w1.2.2 q 0 ∨ mkd w1.2.2 q 1) → mks mm.1 = t3 mm.2 := fun e1 e2 => by
        obtain ⟨x1, x2⟩ := mkd_no A2 e1
        obtain ⟨x3, x4⟩ := mkd_no B2 e2
        rw [hmm]
        exact mgF_mk M2 x1 x2 x4 _ 0 0 0 mgI_0
      obtain ⟨vp, vp1, vp2, mp⟩ := m265 (w := wS w1 s2) (p := p) L2.2.1 (by show _ < s2 0 3; omega)
      obtain ⟨vq, vq1, vq2, mq⟩ := m265 (w := wS w1 s2) (p := q) L2.2.1 (by show _ < s2 0 3; omega)
      have vp2 : vp = 1 ↔ mkd w1.2.2 p 0 ∨ mkd w1.2.2 p 1 := vp2.trans (by rw [show (wS w1 s2).2.2 = s2 from rfl, mkd_rw P2, mkd_rw P2])
      have vq2 : vq = 1 ↔ mkd w1.2.2 q 0 ∨ mkd w1.2.2 q 1 := vq2.trans (by rw [show (wS w1 s2).2.2 = s2 from rfl, mkd_rw Q2, mkd_rw Q2])
      have e5 : (wS w1 s2).2.2 (2 + 2 * t + 1) = s2 (2 + 2 * t + 1) := rfl
      obtain ⟨w', L', S', K'⟩ := ll266 (n := n) (w0 := w1) (p := p) (q := q) (t := t) (side := side) (d1 := some (vA 682)) (d7 := some (.inl (mm.2 : Int))) (by omega) (by omega) (by omega) ht mm.1.length mm.1.length (2900 - 5 - 150 - 5 - 200 - 1 - 150 - 150 - 1) (wS w1 s2) none (Nat.le_refl _) L2 P2 Q2 n2 c5' T2.2.1 (fun h1 h2 => by
        rw [e5, tx]
        exact ⟨_, mk h1 h2⟩) (by omega)
      rw [e5, tx] at K'
      have d175 : Dc 175 [vA 0, vI t] s2 (.inl (some (.inl (mm.1.length : Int)))) s2 := by
        have := Dc_of (q175 (σ := s2) ht)
        rw [T2.2.1] at this
        exact this
      have K153 : ∀ rr, 2900 - 5 - 150 - 5 - 200 - 1 - 150 - 150 ≤ rr → K266_153 (some (vA 682)) p q t side (some (.inl 1)) (some (.inl (mm.2 : Int))) (cn3 (mks mm.1) : Nat) none none (wS w1 s2) rr (rO 1 w') := fun rr hrr => by
        refine bK266_153 (bK266_158 ⟨by omega, _, _, d175, ?_⟩)
        exact Lg_mono (by omega) K'
      refine ⟨w', L', Sc_t (Sc_t sc1 (Sc_e rfl)) S', top (bK266_47 ⟨by decide, _, _, lb259 ⟨by decide, Or.inl ⟨_, _, d2, rfl⟩⟩, by decide, _, _, f2, ?_⟩)⟩
      rw [if_neg (by decide), if_neg (by omega)]
      refine ⟨by decide, _, _, g2, ?_⟩
      rw [if_neg (by decide)]
      refine ⟨by decide, _, _, mp, ?_⟩
      by_cases hvp : vp = 0
      · rw [if_pos hvp]
        refine ⟨by decide, _, _, mq, ?_⟩
        by_cases hvq : vq = 0
        · rw [if_pos hvq]
          have e6 := mk (fun h => by have := vp2.mpr h; omega) (fun h => by have := vq2.mpr h; omega)
          rw [if_pos (by rw [e6, cn3_t3])]
          exact K153 _ (by decide)
        · rw [if_neg hvq]
          exact K153 _ (by decide)
      · rw [if_neg hvp]
        exact K153 _ (by decide)
  · refine ⟨w1, L1, sc1, top (bK266_47 ⟨by decide, _, _, lb259 ⟨by decide, Or.inr ⟨_, c197x (σ := w1.2.2) L1.2.1 (by omega) (by omega) ht hs, rfl⟩⟩, by decide, _, _, h1 hs, ?_⟩)⟩
    rw [if_pos rfl, if_neg (by decide), if_pos rfl]
    exact bK266_87 ⟨Or.inr rfl, rfl⟩
end
