-- DRAFT a3fc.lean
/-! A call of the class: the answer is the ghost's, the relation holds behind it. -/
noncomputable section
theorem Dd_cls {j : Nat} {as : List AV} {σ σ' : Sg} {v : Option AV ⊕ Nat} (hA : clS 682 as) (H : Dd j as σ (v, σ')) {a : Nat} (ha : 682 ≤ a) (k : Nat) : σ' a k = σ a k := by
  obtain ⟨K, h⟩ := H
  refine (cf_run (X := fun a => a < 682) K j _ _ ?_ (fun v e => by cases e) (fun a l s hs i r hr => SH0_cl σ a l s hs i r hr) h rfl).2.2 a (by omega) k
  intro u hu
  rcases List.mem_append.mp hu with hu | hu
  · obtain ⟨x, hx, ex⟩ := List.mem_map.mp hu
    cases ex
    exact hA _ hx
  · have := (List.mem_replicate.mp hu).2
    cases this
/-- the reference's cells, without the law's answer -/
def refY (a : Nat) : Prop := 682 ≤ a ∧ a < 726
def shRefY : Bool := (List.range 44).all (fun i => match SH0[682 + i]? with
  | some s => s.2.2.all (fun o => match o with
    | some (some r) => decide (682 ≤ r ∧ r < 726)
    | _ => true)
  | none => true)
set_option maxRecDepth 100000 in
theorem shRefY_ok : shRefY = true := by decide +kernel
theorem SH0_refY (σ : Nat → Nat → Int) : xlH refY (SH0, σ) := by
  intro a l s hs i r hr
  obtain ⟨j, rfl⟩ : ∃ j, a = 682 + j := ⟨a - 682, by have := l.1; omega⟩
  have h1 := List.all_eq_true.mp shRefY_ok j (List.mem_range.mpr (by have := l.2; omega))
  have hs' : SH0[682 + j]? = some s := hs
  rw [hs'] at h1
  show 682 ≤ r ∧ r < 726
  exact of_decide_eq_true (List.all_eq_true.mp h1 _ (List.mem_of_getElem? hr))
theorem Dd_refY {j : Nat} {as : List AV} {σ σ' : Sg} {v : Option AV ⊕ Nat} (hA : xlS refY as) (H : Dd j as σ (v, σ')) {a : Nat} (ha : ¬ refY a) (k : Nat) : σ' a k = σ a k := by
  obtain ⟨K, h⟩ := H
  refine (cf_run K j _ _ ?_ (fun v e => by cases e) (SH0_refY σ) h rfl).2.2 a ha k
  intro u hu
  rcases List.mem_append.mp hu with hu | hu
  · obtain ⟨x, hx, ex⟩ := List.mem_map.mp hu
    cases ex
    exact hA _ hx
  · have := (List.mem_replicate.mp hu).2
    cases this
/-- the class's call j over the joint numbers with the ghost's call m -/
def FcR (j m : Nat) (as am : List AV) (q : Nat → Option Int) (σ : Sg) (c : Int) : Prop := ∃ s1 : Sg, (∀ a k, 682 ≤ a → ¬ a = 726 → s1 a k = σ a k) ∧
  ((∃ (v : Int) (s2 : Sg), Dc j as σ (.inl (some (.inl v))) s2 ∧ Dd m am s1 (rI v s2) ∧ Rel c s2 ∧ s2 682 0 = 0) ∨
   (∃ (E : Nat) (b : Int) (s2 : Sg), Dc j as σ (.inr E) s2 ∧ Dd m am s1 (rI b s2) ∧ Rel c s2 ∧ ¬ s2 682 0 = 0 ∧ q E = some (s2 682 0)))
def FcB (j m : Nat) (as am : List AV) (q : Nat → Option Int) (σ : Sg) (c : Int) : Prop := ∃ s1 : Sg, (∀ a k, 682 ≤ a → ¬ a = 726 → s1 a k = σ a k) ∧
  ((∃ (v b : Int) (s2 : Sg), Dc j as σ (.inl (some (.inl v))) s2 ∧ Dd m am s1 (rI b s2) ∧ v = (if b = 0 then 0 else 1) ∧ Rel c s2 ∧ s2 682 0 = 0) ∨
   (∃ (E : Nat) (b : Int) (s2 : Sg), Dc j as σ (.inr E) s2 ∧ Dd m am s1 (rI b s2) ∧ Rel c s2 ∧ ¬ s2 682 0 = 0 ∧ q E = some (s2 682 0)))
theorem op_fc {w j m : Nat} {aw as am : List AV} {q : Nat → Option Int} {σ : Sg} {c : Int} (hA : clS 682 as) (hM : xlS refY am) (O : OpR w m aw am σ c) (I : ∀ {s1 : Sg} {kx : Int}, Dd w aw σ (.inl (some (.inl kx)), s1) → (∃ (v : Int) (s : Sg), Dd j as σ (.inl (some (.inl v)), s) ∧ kx = 0 ∧ s1 = upS s 726 0 v) ∨ (∃ E : Nat, Dd j as σ (.inr E, s1) ∧ ¬ kx = 0 ∧ q E = some kx)) : FcR j m as am q σ c := by
  obtain ⟨kx, b, s1, s2, d1, d2, e1, e2, -, -, -, -, R⟩ := O
  have fr : ∀ a k, ¬ refY a → s2 a k = s1 a k := fun a k h => Dd_refY hM d2 h k
  rcases I d1 with ⟨v, s, hD, hk, hs⟩ | ⟨E, hD, hk, hq⟩
  · subst hs
    have e3 := e2 hk
    rw [fr 726 0 (by unfold refY; omega), up_s] at e3
    subst e3
    refine ⟨_, fun a k h1 h2 => by rw [up_a h2]; exact Dd_cls hA hD h1 k, Or.inl ⟨v, s2, ⟨s, hD, fun a h => ?_⟩, d2, R, e1.trans hk⟩⟩
    funext k
    rw [fr a k (by unfold refY; omega), up_a (by omega)]
  · refine ⟨s1, fun a k h1 _ => Dd_cls hA hD h1 k, Or.inr ⟨E, b, s2, ⟨s1, hD, fun a h => ?_⟩, d2, R, by rw [e1]; exact hk, by rw [e1]; exact hq⟩⟩
    funext k
    rw [fr a k (by unfold refY; omega)]
theorem op_fcB {w j m : Nat} {aw as am : List AV} {q : Nat → Option Int} {σ : Sg} {c : Int} (hA : clS 682 as) (hM : xlS refY am) (O : OpB w m aw am σ c) (I : ∀ {s1 : Sg} {kx : Int}, Dd w aw σ (.inl (some (.inl kx)), s1) → (∃ (v : Int) (s : Sg), Dd j as σ (.inl (some (.inl v)), s) ∧ kx = 0 ∧ s1 = upS s 726 0 (if v = 0 then 0 else 1) ∧ (v = 0 ∨ v = 1)) ∨ (∃ E : Nat, Dd j as σ (.inr E, s1) ∧ ¬ kx = 0 ∧ q E = some kx)) : FcB j m as am q σ c := by
  obtain ⟨kx, b, s1, s2, d1, d2, e1, e2, -, -, -, -, R⟩ := O
  have fr : ∀ a k, ¬ refY a → s2 a k = s1 a k := fun a k h => Dd_refY hM d2 h k
  rcases I d1 with ⟨v, s, hD, hk, hs, hv⟩ | ⟨E, hD, hk, hq⟩
  · subst hs
    have e3 := e2 hk
    rw [fr 726 0 (by unfold refY; omega), up_s] at e3
    have e4 : v = (if b = 0 then 0 else 1) := by
      rw [← e3]
      rcases hv with h | h
      · rw [h]; rfl
      · rw [h]; rfl
    refine ⟨_, fun a k h1 h2 => by rw [up_a h2]; exact Dd_cls hA hD h1 k, Or.inl ⟨v, b, s2, ⟨s, hD, fun a h => ?_⟩, d2, e4, R, e1.trans hk⟩⟩
    funext k
    rw [fr a k (by unfold refY; omega), up_a (by omega)]
  · refine ⟨s1, fun a k h1 _ => Dd_cls hA hD h1 k, Or.inr ⟨E, b, s2, ⟨s1, hD, fun a h => ?_⟩, d2, R, by rw [e1]; exact hk, by rw [e1]; exact hq⟩⟩
    funext k
    rw [fr a k (by unfold refY; omega)]
theorem xlS_0 {as : List AV} (h : as.all (fun v => match v with
  | .inr (.inr (some a)) => decide (682 ≤ a ∧ a < 726)
  | _ => true) = true) : xlS refY as := by
  intro v hv a e
  subst e
  show 682 ≤ a ∧ a < 726
  exact of_decide_eq_true (List.all_eq_true.mp h _ hv)
theorem fc0 {σ : Sg} {c a1 a2 a3 : Int} (H : Rel c σ) : FcR 172 256 [(.inr (.inr (some 0))), (.inl a1), (.inl a2), (.inl a3)] [vA 682, vI a1, vI a2, vI a3] (fun E => hnd 390 7 E) σ (c + 1) := op_fc (clS_0 rfl) (xlS_0 rfl) (o0 H) (fun h => iw390 h)
theorem fc1 {σ : Sg} {c a1 a2 : Int} (H : Rel c σ) : FcR 173 258 [(.inr (.inr (some 0))), (.inl a1), (.inl a2)] [vA 682, vI a1, vI a2] (fun E => hnd 391 5 E) σ (c + 1) := op_fc (clS_0 rfl) (xlS_0 rfl) (o1 H) (fun h => iw391 h)
theorem fc2 {σ : Sg} {c a1 a2 : Int} (H : Rel c σ) : FcR 174 259 [(.inr (.inr (some 0))), (.inl a1), (.inl a2)] [vA 682, vI a1, vI a2] (fun E => hnd 392 5 E) σ (c + 1) := op_fc (clS_0 rfl) (xlS_0 rfl) (o2 H) (fun h => iw392 h)
theorem fc3 {σ : Sg} {c a1 : Int} (H : Rel c σ) : FcR 175 260 [(.inr (.inr (some 0))), (.inl a1)] [vA 682, vI a1] (fun E => hnd 393 4 E) σ (c + 1) := op_fc (clS_0 rfl) (xlS_0 rfl) (o3 H) (fun h => iw393 h)
theorem fc4 {σ : Sg} {c a1 a2 : Int} (H : Rel c σ) : FcR 176 261 [(.inr (.inr (some 0))), (.inl a1), (.inl a2)] [vA 682, vI a1, vI a2] (fun E => hnd 394 5 E) σ (c + 1) := op_fc (clS_0 rfl) (xlS_0 rfl) (o4 H) (fun h => iw394 h)
theorem fc5 {σ : Sg} {c a1 a2 : Int} (H : Rel c σ) : FcR 177 262 [(.inr (.inr (some 0))), (.inl a1), (.inl a2)] [vA 682, vI a1, vI a2] (fun E => hnd 395 5 E) σ (c + 1) := op_fc (clS_0 rfl) (xlS_0 rfl) (o5 H) (fun h => iw395 h)
theorem fc6 {σ : Sg} {c a1 a2 a3 a4 : Int} (H : Rel c σ) : FcR 178 277 [(.inr (.inr (some 0))), (.inl a1), (.inl a2), (.inl a3), (.inl a4)] [vA 682, vI a1, vI a2, vI a3, vI a4] (fun E => hnd 396 9 E) σ (c + 1) := op_fc (clS_0 rfl) (xlS_0 rfl) (o6 H) (fun h => iw396 h)
theorem fc7 {σ : Sg} {c a1 a2 a3 : Int} (H : Rel c σ) : FcR 179 278 [(.inr (.inr (some 0))), (.inl a1), (.inl a2), (.inl a3)] [vA 682, vI a1, vI a2, vI a3] (fun E => hnd 397 7 E) σ (c + 1) := op_fc (clS_0 rfl) (xlS_0 rfl) (o7 H) (fun h => iw397 h)
theorem fc8 {σ : Sg} {c a1 a2 : Int} (H : Rel c σ) : FcR 180 279 [(.inr (.inr (some 0))), (.inl a1), (.inl a2)] [vA 682, vI a1, vI a2] (fun E => hnd 398 5 E) σ (c + 1) := op_fc (clS_0 rfl) (xlS_0 rfl) (o8 H) (fun h => iw398 h)
theorem fc9 {σ : Sg} {c a1 a2 a3 : Int} (H : Rel c σ) : FcR 181 299 [(.inr (.inr (some 0))), (.inl a1), (.inl a2), (.inl a3)] [vA 682, vI a1, vI a2, vI a3] (fun E => hnd 399 7 E) σ (c + 1) := op_fc (clS_0 rfl) (xlS_0 rfl) (o9 H) (fun h => iw399 h)
theorem fc10 {σ : Sg} {c a1 : Int} (H : Rel c σ) : FcR 182 300 [(.inr (.inr (some 0))), (.inl a1)] [vA 682, vI a1] (fun E => hnd 400 4 E) σ (c + 1) := op_fc (clS_0 rfl) (xlS_0 rfl) (o10 H) (fun h => iw400 h)
theorem fc11 {σ : Sg} {c a1 a2 : Int} (H : Rel c σ) : FcR 183 301 [(.inr (.inr (some 0))), (.inl a1), (.inl a2)] [vA 682, vI a1, vI a2] (fun E => hnd 401 5 E) σ (c + 1) := op_fc (clS_0 rfl) (xlS_0 rfl) (o11 H) (fun h => iw401 h)
theorem fc12 {σ : Sg} {c a1 a2 : Int} (H : Rel c σ) : FcB 184 302 [(.inr (.inr (some 0))), (.inl a1), (.inl a2)] [vA 682, vI a1, vI a2] (fun E => hnd 402 5 E) σ (c + 1) := op_fcB (clS_0 rfl) (xlS_0 rfl) (o12 H) (fun h => iw402 h)
theorem fc13 {σ : Sg} {c a1 a2 a3 : Int} (H : Rel c σ) : FcR 185 303 [(.inr (.inr (some 0))), (.inl a1), (.inl a2), (.inl a3)] [vA 682, vI a1, vI a2, vI a3] (fun E => hnd 403 7 E) σ (c + 1) := op_fc (clS_0 rfl) (xlS_0 rfl) (o13 H) (fun h => iw403 h)
theorem fc14 {σ : Sg} {c a1 a2 a3 a4 a5 : Int} (H : Rel c σ) : FcR 186 305 [(.inr (.inr (some 0))), (.inl a1), (.inl a2), (.inl a3), (.inl a4), (.inl a5)] [vA 682, vI a1, vI a2, vI a3, vI a4, vI a5] (fun E => hnd 404 11 E) σ (c + 1) := op_fc (clS_0 rfl) (xlS_0 rfl) (o14 H) (fun h => iw404 h)
theorem fc16 {σ : Sg} {c a1 a2 a3 : Int} (H : Rel c σ) (hb : a2 = 0 ∨ a2 = 1) : FcR 188 307 [(.inr (.inr (some 0))), (.inl a1), (.inl a2), (.inl a3)] [vA 682, vI a1, vI a2, vI a3] (fun E => hnd 405 7 E) σ (c + 1) := op_fc (clS_0 rfl) (xlS_0 rfl) (o16 H hb) (fun h => iw405 h)
theorem fc17 {σ : Sg} {c a1 a2 : Int} (H : Rel c σ) : FcR 189 309 [(.inr (.inr (some 0))), (.inl a1), (.inl a2)] [vA 682, vI a1, vI a2] (fun E => hnd 406 5 E) σ (c + 1) := op_fc (clS_0 rfl) (xlS_0 rfl) (o17 H) (fun h => iw406 h)
theorem fc18 {σ : Sg} {c a1 : Int} (H : Rel c σ) : FcR 190 310 [(.inr (.inr (some 0))), (.inl a1)] [vA 682, vI a1] (fun E => hnd 407 4 E) σ (c + 1) := op_fc (clS_0 rfl) (xlS_0 rfl) (o18 H) (fun h => iw407 h)
theorem fc19 {σ : Sg} {c a1 a2 a3 : Int} (H : Rel c σ) : FcR 191 311 [(.inr (.inr (some 0))), (.inl a1), (.inl a2), (.inl a3)] [vA 682, vI a1, vI a2, vI a3] (fun E => hnd 408 7 E) σ (c + 1) := op_fc (clS_0 rfl) (xlS_0 rfl) (o19 H) (fun h => iw408 h)
theorem fc20 {σ : Sg} {c a1 a2 : Int} (H : Rel c σ) : FcR 192 316 [(.inr (.inr (some 0))), (.inl a1), (.inl a2)] [vA 682, vI a1, vI a2] (fun E => hnd 409 5 E) σ (c + 1) := op_fc (clS_0 rfl) (xlS_0 rfl) (o20 H) (fun h => iw409 h)
theorem fc21 {σ : Sg} {c a1 a2 : Int} (H : Rel c σ) : FcB 193 317 [(.inr (.inr (some 0))), (.inl a1), (.inl a2)] [vA 682, vI a1, vI a2] (fun E => hnd 410 5 E) σ (c + 1) := op_fcB (clS_0 rfl) (xlS_0 rfl) (o21 H) (fun h => iw410 h)
theorem fc22 {σ : Sg} {c a1 a2 : Int} (H : Rel c σ) : FcR 194 320 [(.inr (.inr (some 0))), (.inl a1), (.inl a2)] [vA 682, vI a1, vI a2] (fun E => hnd 411 5 E) σ (c + 1) := op_fc (clS_0 rfl) (xlS_0 rfl) (o22 H) (fun h => iw411 h)
theorem fc23 {σ : Sg} {c a1 a2 a3 : Int} (H : Rel c σ) : FcR 195 326 [(.inr (.inr (some 0))), (.inl a1), (.inl a2), (.inl a3)] [vA 682, vI a1, vI a2, vI a3] (fun E => hnd 412 7 E) σ (c + 1) := op_fc (clS_0 rfl) (xlS_0 rfl) (o23 H) (fun h => iw412 h)
theorem fc24 {σ : Sg} {c a1 : Int} (H : Rel c σ) : FcR 196 327 [(.inr (.inr (some 0))), (.inl a1)] [vA 682, vI a1] (fun E => hnd 413 4 E) σ (c + 1) := op_fc (clS_0 rfl) (xlS_0 rfl) (o24 H) (fun h => iw413 h)
theorem fc25 {σ : Sg} {c a1 a2 a3 : Int} (H : Rel c σ) : FcR 197 333 [(.inr (.inr (some 0))), (.inl a1), (.inl a2), (.inl a3)] [vA 682, vI a1, vI a2, vI a3] (fun E => hnd 414 7 E) σ (c + 1) := op_fc (clS_0 rfl) (xlS_0 rfl) (o25 H) (fun h => iw414 h)
theorem fc26 {σ : Sg} {c a1 : Int} (H : Rel c σ) : FcR 198 338 [(.inr (.inr (some 0))), (.inl a1)] [vA 682, vI a1] (fun E => hnd 415 4 E) σ (c + 1) := op_fc (clS_0 rfl) (xlS_0 rfl) (o26 H) (fun h => iw415 h)
theorem fc27 {σ : Sg} {c a1 a2 a3 : Int} (H : Rel c σ) : FcR 199 339 [(.inr (.inr (some 0))), (.inl a1), (.inl a2), (.inl a3)] [vA 682, vI a1, vI a2, vI a3] (fun E => hnd 416 7 E) σ (c + 1) := op_fc (clS_0 rfl) (xlS_0 rfl) (o27 H) (fun h => iw416 h)
theorem fc28 {σ : Sg} {c a1 : Int} (H : Rel c σ) : FcR 200 343 [(.inr (.inr (some 0))), (.inl a1)] [vA 682, vI a1] (fun E => hnd 417 4 E) σ (c + 1) := op_fc (clS_0 rfl) (xlS_0 rfl) (o28 H) (fun h => iw417 h)
theorem fc29 {σ : Sg} {c a1 : Int} (H : Rel c σ) (hc9 : c < 1000000) : FcR 201 345 [(.inr (.inr (some 0))), (.inl a1)] [vA 682, vI a1] (fun E => hnd 418 4 E) σ (c + 1) := op_fc (clS_0 rfl) (xlS_0 rfl) (o29 H hc9) (fun h => iw418 h)
theorem fc30 {σ : Sg} {c : Int} (H : Rel c σ) : FcR 202 346 [(.inr (.inr (some 0)))] [vA 682] (fun E => hnd 419 3 E) σ (c + 1) := op_fc (clS_0 rfl) (xlS_0 rfl) (o30 H) (fun h => iw419 h)
theorem fc31 {σ : Sg} {c a1 : Int} (H : Rel c σ) : FcR 203 347 [(.inr (.inr (some 0))), (.inl a1)] [vA 682, vI a1] (fun E => hnd 420 4 E) σ (c + 1) := op_fc (clS_0 rfl) (xlS_0 rfl) (o31 H) (fun h => iw420 h)
theorem fc32 {σ : Sg} {c a1 : Int} (H : Rel c σ) : FcR 204 348 [(.inr (.inr (some 0))), (.inl a1)] [vA 682, vI a1] (fun E => hnd 421 4 E) σ (c + 1) := op_fc (clS_0 rfl) (xlS_0 rfl) (o32 H) (fun h => iw421 h)
theorem fc33 {σ : Sg} {c a1 : Int} (H : Rel c σ) : FcR 205 349 [(.inr (.inr (some 0))), (.inl a1)] [vA 682, vI a1] (fun E => hnd 422 4 E) σ (c + 1) := op_fc (clS_0 rfl) (xlS_0 rfl) (o33 H) (fun h => iw422 h)
theorem fc34 {σ : Sg} {c a1 a2 a3 : Int} (H : Rel c σ) : FcR 206 351 [(.inr (.inr (some 0))), (.inl a1), (.inl a2), (.inl a3)] [vA 682, vI a1, vI a2, vI a3] (fun E => hnd 423 7 E) σ (c + 1) := op_fc (clS_0 rfl) (xlS_0 rfl) (o34 H) (fun h => iw423 h)
theorem fc35 {σ : Sg} {c a1 a2 : Int} (H : Rel c σ) : FcR 207 352 [(.inr (.inr (some 0))), (.inl a1), (.inl a2)] [vA 682, vI a1, vI a2] (fun E => hnd 424 5 E) σ (c + 1) := op_fc (clS_0 rfl) (xlS_0 rfl) (o35 H) (fun h => iw424 h)
theorem fc37 {σ : Sg} {c a1 : Int} (H : Rel c σ) : FcR 209 354 [(.inr (.inr (some 0))), (.inl a1)] [vA 682, vI a1] (fun E => hnd 425 4 E) σ (c + 1) := op_fc (clS_0 rfl) (xlS_0 rfl) (o37 H) (fun h => iw425 h)
theorem fc38 {σ : Sg} {c a1 : Int} (H : Rel c σ) : FcR 210 355 [(.inr (.inr (some 0))), (.inl a1)] [vA 682, vI a1] (fun E => hnd 426 4 E) σ (c + 1) := op_fc (clS_0 rfl) (xlS_0 rfl) (o38 H) (fun h => iw426 h)
theorem fc39 {σ : Sg} {c a1 : Int} (H : Rel c σ) : FcR 211 357 [(.inr (.inr (some 0))), (.inl a1)] [vA 682, vI a1] (fun E => hnd 427 4 E) σ (c + 1) := op_fc (clS_0 rfl) (xlS_0 rfl) (o39 H) (fun h => iw427 h)
theorem fc40 {σ : Sg} {c : Int} (H : Rel c σ) : FcR 212 361 [(.inr (.inr (some 0)))] [vA 682] (fun E => hnd 428 3 E) σ (c + 1) := op_fc (clS_0 rfl) (xlS_0 rfl) (o40 H) (fun h => iw428 h)
theorem fc41 {σ : Sg} {c a1 : Int} (H : Rel c σ) : FcR 213 366 [(.inr (.inr (some 0))), (.inl a1)] [vA 682, vI a1] (fun E => hnd 429 4 E) σ (c + 1) := op_fc (clS_0 rfl) (xlS_0 rfl) (o41 H) (fun h => iw429 h)
theorem fc42 {σ : Sg} {c a1 : Int} (H : Rel c σ) : FcR 214 367 [(.inr (.inr (some 0))), (.inl a1)] [vA 682, vI a1] (fun E => hnd 430 4 E) σ (c + 1) := op_fc (clS_0 rfl) (xlS_0 rfl) (o42 H) (fun h => iw430 h)
theorem fc43 {σ : Sg} {c a1 a2 a3 : Int} (H : Rel c σ) : FcB 215 368 [(.inr (.inr (some 0))), (.inl a1), (.inl a2), (.inl a3)] [vA 682, vI a1, vI a2, vI a3] (fun E => hnd 431 7 E) σ (c + 1) := op_fcB (clS_0 rfl) (xlS_0 rfl) (o43 H) (fun h => iw431 h)
theorem fc44 {σ : Sg} {c a1 a2 : Int} (H : Rel c σ) : FcR 216 374 [(.inr (.inr (some 0))), (.inl a1), (.inl a2)] [vA 682, vI a1, vI a2] (fun E => hnd 432 5 E) σ (c + 1) := op_fc (clS_0 rfl) (xlS_0 rfl) (o44 H) (fun h => iw432 h)
theorem fc45 {σ : Sg} {c a1 a2 : Int} (H : Rel c σ) : FcR 217 375 [(.inr (.inr (some 0))), (.inl a1), (.inl a2)] [vA 682, vI a1, vI a2] (fun E => hnd 433 5 E) σ (c + 1) := op_fc (clS_0 rfl) (xlS_0 rfl) (o45 H) (fun h => iw433 h)
theorem fc46 {σ : Sg} {c a1 a2 : Int} (H : Rel c σ) : FcR 218 376 [(.inr (.inr (some 0))), (.inl a1), (.inl a2)] [vA 682, vI a1, vI a2] (fun E => hnd 434 5 E) σ (c + 1) := op_fc (clS_0 rfl) (xlS_0 rfl) (o46 H) (fun h => iw434 h)
theorem fc47 {σ : Sg} {c a1 a2 : Int} (H : Rel c σ) : FcR 219 378 [(.inr (.inr (some 0))), (.inl a1), (.inl a2)] [vA 682, vI a1, vI a2] (fun E => hnd 435 5 E) σ (c + 1) := op_fc (clS_0 rfl) (xlS_0 rfl) (o47 H) (fun h => iw435 h)
theorem fc48 {σ : Sg} {c a1 : Int} (H : Rel c σ) : FcR 220 379 [(.inr (.inr (some 0))), (.inl a1)] [vA 682, vI a1] (fun E => hnd 436 4 E) σ (c + 1) := op_fc (clS_0 rfl) (xlS_0 rfl) (o48 H) (fun h => iw436 h)
theorem fc49 {σ : Sg} {c a1 a2 : Int} (H : Rel c σ) : FcR 221 380 [(.inr (.inr (some 0))), (.inl a1), (.inl a2)] [vA 682, vI a1, vI a2] (fun E => hnd 437 5 E) σ (c + 1) := op_fc (clS_0 rfl) (xlS_0 rfl) (o49 H) (fun h => iw437 h)
theorem fc50 {σ : Sg} {c a1 a2 : Int} (H : Rel c σ) : FcR 222 382 [(.inr (.inr (some 0))), (.inl a1), (.inl a2)] [vA 682, vI a1, vI a2] (fun E => hnd 438 5 E) σ (c + 1) := op_fc (clS_0 rfl) (xlS_0 rfl) (o50 H) (fun h => iw438 h)
theorem fc51 {σ : Sg} {c a1 a2 : Int} (H : Rel c σ) : FcR 223 385 [(.inr (.inr (some 0))), (.inl a1), (.inl a2)] [vA 682, vI a1, vI a2] (fun E => hnd 439 5 E) σ (c + 1) := op_fc (clS_0 rfl) (xlS_0 rfl) (o51 H) (fun h => iw439 h)
theorem fc52 {σ : Sg} {c a1 : Int} (H : Rel c σ) : FcR 224 387 [(.inr (.inr (some 0))), (.inl a1)] [vA 682, vI a1] (fun E => hnd 440 4 E) σ (c + 1) := op_fc (clS_0 rfl) (xlS_0 rfl) (o52 H) (fun h => iw440 h)
theorem fc53 {σ : Sg} {c a1 a2 : Int} (H : Rel c σ) (hi : a2 ≤ 2147483647) : FcR 225 388 [(.inr (.inr (some 0))), (.inl a1), (.inl a2)] [vA 682, vI a1, vI a2] (fun E => hnd 441 5 E) σ (c + 1) := op_fc (clS_0 rfl) (xlS_0 rfl) (o53 H hi) (fun h => iw441 h)
theorem fc54 {σ : Sg} {c a1 a2 a3 : Int} (H : Rel c σ) : FcR 226 389 [(.inr (.inr (some 0))), (.inl a1), (.inl a2), (.inl a3)] [vA 682, vI a1, vI a2, vI a3] (fun E => hnd 442 7 E) σ (c + 1) := op_fc (clS_0 rfl) (xlS_0 rfl) (o54 H) (fun h => iw442 h)
theorem fc15 {σ : Sg} {c : Int} (H : Rel c σ) : Dc 187 [vA 0] σ (.inl (some (.inl (σ 682 3)))) σ ∧ Rel (c + 1) σ := by
  refine ⟨⟨σ, ?_, fun _ _ => rfl⟩, Rel_0 (by omega) (fun _ _ _ => rfl) H⟩
  rw [(rel_n H).1.1]
  exact b187 rfl
theorem fc36 {σ : Sg} {c : Int} (H : Rel c σ) : Dc 208 [vA 0] σ (.inl (some (.inl (σ 682 40)))) σ ∧ Rel (c + 1) σ := by
  refine ⟨⟨σ, ?_, fun _ _ => rfl⟩, Rel_0 (by omega) (fun _ _ _ => rfl) H⟩
  rw [(rel_n H).2.1.1]
  exact b208 rfl
end
-- DRAFT a4qu.lean
/-! The class's questions that change nothing: what they answer, by the class's own numbers. -/
noncomputable section
theorem atS_in {σ : Sg} {a k : Nat} (h : (k : Int) < σ a 1) : atS σ a k = σ (a + 1) k := by
  unfold atS
  rw [if_pos ⟨by omega, h⟩, Int.toNat_natCast]
theorem atS_out {σ : Sg} {a k : Nat} (h : σ a 1 ≤ (k : Int)) : atS σ a k = -1 := by
  unfold atS
  rw [if_neg (by omega)]
theorem txt_ok {σ : Sg} {t : Nat} (ht : t < 4) : Dd 227 [vA 0, vI t] σ (rA (2 + 2 * t) σ) ∧ isRow (2 + 2 * t) = true := by
  have k : 0 ≤ (t : Int) ∧ (t : Int) < 4 := by omega
  have e := d227_ok (σ := σ) k
  have r := (el_1 k).2
  rw [Int.toNat_natCast] at e r
  exact ⟨e, r⟩
theorem byt_ok {σ : Sg} {t : Nat} (ht : t < 4) : Dd 228 [vA 0, vI t] σ (rA (11 + 2 * t) σ) ∧ isRow (11 + 2 * t) = true := by
  have k : 0 ≤ (t : Int) ∧ (t : Int) < 4 := by omega
  have e := d228_ok (σ := σ) k
  have r := (el_10 k).2
  rw [Int.toNat_natCast] at e r
  exact ⟨e, r⟩
theorem pat_ok {σ : Sg} {c : Int} {p : Nat} (H : Rel c σ) (hp : (p : Int) < σ 0 3) : Dd 230 [vA 0, vI p] σ (rA (20 + 13 * p) σ) ∧ isPatch (20 + 13 * p) = true ∧ PO σ (20 + 13 * p) 16 ∧ 0 ≤ σ (20 + 13 * p + 1) 1 ∧ 0 ≤ σ (20 + 13 * p + 3) 1 := by
  have hn := (rel_n H).1
  have e := d230_ok (σ := σ) (k := (p : Int)) (by omega) hn.2.2
  rw [Int.toNat_natCast] at e
  obtain ⟨h1, h2, h3, h4, h5⟩ := po_pat H hp
  exact ⟨e, h1, h3, h4, h5⟩
theorem q175 {σ : Sg} {t : Nat} (ht : t < 4) : Dd 175 [vA 0, vI t] σ (rI (σ (2 + 2 * t) 1) σ) := by
  obtain ⟨e, r⟩ := txt_ok (σ := σ) ht
  exact b175 (Or.inl ⟨_, _, e, r, _, _, d146 r, rfl⟩)
theorem q176 {σ : Sg} {c : Int} {t k : Nat} (H : Rel c σ) (ht : t < 4) (hk : (k : Int) < σ (2 + 2 * t) 1) : Dd 176 [vA 0, vI t, vI k] σ (rI (σ (2 + 2 * t + 1) k) σ) := by
  obtain ⟨e, r⟩ := txt_ok (σ := σ) ht
  have d := d147 (i := (k : Int)) (WF_w H.1 r)
  rw [atS_in hk] at d
  exact b176 (Or.inl ⟨_, _, e, r, _, _, d146 r, Or.inl ⟨_, d232_ok ⟨by omega, hk⟩, _, _, d, rfl⟩⟩)
theorem q177 {σ : Sg} {x y : Int} (hx : isLn x = true) (hy : isLn y = true) (hx0 : 0 ≤ x) (hy0 : 0 ≤ y) : Dd 177 [vA 0, vI x, vI y] σ (rI (lik x y) σ) :=
  b177 (Or.inl ⟨_, d235_t hx, Or.inl ⟨_, d235_t hy, _, _, d71 hx0 hy0, rfl⟩⟩)
theorem q188 {σ : Sg} {c : Int} {p k : Nat} {b : Int} (H : Rel c σ) (hp : (p : Int) < σ 0 3) : Dd 188 [vA 0, vI p, vI b, vI k] σ (rI (atS σ (20 + 13 * p + if b = 0 then 1 else 3) k) σ) := by
  obtain ⟨e, hP, -, -, -⟩ := pat_ok H hp
  refine b188 (Or.inl ⟨_, _, e, hP, Or.inl ⟨_, b233 (by rw [if_neg (by omega)]), ?_⟩⟩)
  by_cases hb : b = 0
  · rw [if_pos hb, if_pos hb]
    exact ⟨_, _, d147 (WF_w H.1 (pat_1 hP)), rfl⟩
  · rw [if_neg hb, if_neg hb]
    exact ⟨_, _, d147 (WF_w H.1 (pat_3 hP)), rfl⟩
theorem q189 {σ : Sg} {c : Int} {p k : Nat} (H : Rel c σ) (hp : (p : Int) < σ 0 3) (hk : (k : Int) < σ (20 + 13 * p + 1) 1) : Dd 189 [vA 0, vI p, vI k] σ (rI (σ (20 + 13 * p + 6) k) σ) := by
  obtain ⟨e, hP, hO, -, -⟩ := pat_ok H hp
  have d := d147 (i := (k : Int)) (WF_w H.1 (pat_5 hP))
  rw [atS_in (by rw [hO.2.2.1]; exact hk)] at d
  exact b189 (Or.inl ⟨_, _, e, hP, _, _, d146 (pat_1 hP), Or.inl ⟨_, d232_ok ⟨by omega, hk⟩, _, _, d, rfl⟩⟩)
/-- the hunks of a patch of the class -/
def hkP (σ : Sg) (P : Nat) : List (Nat × Nat × Nat × Nat) := hks (σ (P + 6)) (σ (P + 1) 1).toNat (σ (P + 3) 1).toNat
theorem q190 {σ : Sg} {c : Int} {p : Nat} (H : Rel c σ) (hp : (p : Int) < σ 0 3) : Dd 190 [vA 0, vI p] σ (rI ((hkP σ (20 + 13 * p)).length : Nat) σ) := by
  obtain ⟨e, hP, hO, -, -⟩ := pat_ok H hp
  exact b190 (Or.inl ⟨_, _, e, hP, _, _, d98 hP hO.2.2.2.2.2.2.2.2.2.1, rfl⟩)
def hkN (q : Nat × Nat × Nat × Nat) (w : Nat) : Int := if w = 0 then q.1 else if w = 1 then q.2.1 else if w = 2 then q.2.2.1 else q.2.2.2
theorem q191 {σ : Sg} {c : Int} {p h w : Nat} {q : Nat × Nat × Nat × Nat} (H : Rel c σ) (hp : (p : Int) < σ 0 3) (hq : (hkP σ (20 + 13 * p))[h]? = some q) (hw : w ≤ 3) : Dd 191 [vA 0, vI p, vI h, vI w] σ (rI (hkN q w) σ) := by
  obtain ⟨e, hP, hO, -, -⟩ := pat_ok H hp
  obtain ⟨hpc, hpv⟩ := hO.2.2.2.2.2.2.2.2.2
  have hl := (List.getElem?_eq_some_iff.mp hq).1
  have d := d147 (i := 4 * (h : Int) + (w : Int)) (WF_w H.1 (pat_9 hP))
  have hlen : ((hkP σ (20 + 13 * p)).length : Int) ≤ 97 := by
    have := (WF_w H.1 (pat_9 hP)).2.2
    have hc : cap (20 + 13 * p + 9) ≤ 388 := by
      have hn := (rel_n H).1
      have : ∀ p, p < 24 → cap (20 + 13 * p + 9) ≤ 388 := by decide +kernel
      exact this p (by omega)
    unfold hkP
    omega
  obtain ⟨y0, y1, y2, y3⟩ := hpv h q hq
  have ev : atS σ (20 + 13 * p + 9) (4 * (h : Int) + (w : Int)) = hkN q w := by
    unfold atS
    rw [if_pos ⟨by omega, by rw [hpc]; unfold hkP at hl; omega⟩, show (4 * (h : Int) + (w : Int)).toNat = 4 * h + w by omega]
    unfold hkN
    by_cases h0 : w = 0
    · rw [if_pos h0, h0]; exact y0
    · by_cases h1 : w = 1
      · rw [if_neg h0, if_pos h1, h1]; exact y1
      · by_cases h2 : w = 2
        · rw [if_neg h0, if_neg h1, if_pos h2, h2]; exact y2
        · rw [if_neg h0, if_neg h1, if_neg h2, show w = 3 by omega]; exact y3
  rw [ev] at d
  exact b191 (Or.inl ⟨_, _, e, hP, _, _, d98 hP hpc, Or.inl ⟨_, d232_ok ⟨by omega, by unfold hkP at hl; omega⟩, Or.inl ⟨_, d234_ok ⟨by omega, by omega⟩, _, _, b99 hP ⟨by omega, by omega, _, _, d, rfl⟩, rfl⟩⟩⟩)
theorem q193 {σ : Sg} {c : Int} {p q : Nat} (H : Rel c σ) (hp : (p : Int) < σ 0 3) (hq : (q : Int) < σ 0 3) : (PEQ σ (20 + 13 * p) (20 + 13 * q) → Dd 193 [vA 0, vI p, vI q] σ (rI 1 σ)) ∧ (¬ PEQ σ (20 + 13 * p) (20 + 13 * q) → Dd 193 [vA 0, vI p, vI q] σ (rI 0 σ)) := by
  obtain ⟨e, hP, -, -, -⟩ := pat_ok H hp
  obtain ⟨e', hQ, -, -, -⟩ := pat_ok H hq
  obtain ⟨d1, d2⟩ := d97 H.1 hP hQ
  exact ⟨fun h => b193 (Or.inl ⟨_, _, e, hP, Or.inl ⟨_, _, e', hQ, _, _, d1 h, Or.inr rfl, rfl⟩⟩), fun h => b193 (Or.inl ⟨_, _, e, hP, Or.inl ⟨_, _, e', hQ, _, _, d2 h, Or.inl rfl, rfl⟩⟩)⟩
theorem q196 {σ : Sg} {c : Int} {h : Nat} (H : Rel c σ) (hh : (h : Int) < σ 393 1) : Dd 196 [vA 0, vI h] σ (rI (σ 394 h) σ) := by
  have d := d147 (i := (h : Int)) (WF_w H.1 (show isRow 393 = true by decide +kernel))
  rw [atS_in hh] at d
  exact b196 ⟨_, _, d146 (by decide +kernel), Or.inl ⟨_, d232_ok ⟨by omega, hh⟩, _, _, d, rfl⟩⟩
theorem q209 {σ : Sg} {c : Int} {k : Nat} (H : Rel c σ) (hk : (k : Int) < σ 402 3) : Dd 209 [vA 0, vI k] σ (rI (σ 472 k) σ) := by
  have d := d147 (i := (k : Int)) (WF_w H.1 (show isRow 471 = true by decide +kernel))
  rw [atS_in (by rw [H.2.2.2.2.2.1.2.2.2.2.2.2.1.1]; exact hk)] at d
  exact b209 (Or.inl ⟨_, d232_ok ⟨by omega, hk⟩, _, _, d, rfl⟩)
/-- the row that holds the text of the stack -/
def tpR (σ : Sg) : Nat := blw (σ 402 3).toNat
theorem q210 {σ : Sg} {c : Int} {k : Nat} (H : Rel c σ) : Dd 210 [vA 0, vI k] σ (rI (atS σ (tpR σ) k) σ) :=
  b210 (Or.inl ⟨_, b233 (by rw [if_neg (by omega)]), _, _, d127 H, blw_row H, _, _, d147 (WF_w H.1 (blw_row H)), rfl⟩)
theorem q221 {σ : Sg} {c : Int} {t k : Nat} (H : Rel c σ) (ht : t < 4) : Dd 221 [vA 0, vI t, vI k] σ (rI (atS σ (11 + 2 * t) k) σ) := by
  obtain ⟨e, r⟩ := byt_ok (σ := σ) ht
  exact b221 (Or.inl ⟨_, _, e, r, Or.inl ⟨_, b233 (by rw [if_neg (by omega)]), _, _, d147 (WF_w H.1 r), rfl⟩⟩)
theorem q198 {σ : Sg} {c : Int} {t : Nat} (H : Rel c σ) (ht : t < 4) : Dd 198 [vA 0, vI t] σ (rI (cnF (σ (2 + 2 * t + 1)) (σ (2 + 2 * t) 1).toNat (σ (2 + 2 * t) 1).toNat 0 : Nat) σ) := by
  obtain ⟨e, r⟩ := txt_ok (σ := σ) ht
  have w := WF_w H.1 r
  exact b198 (Or.inl ⟨_, _, e, r, _, _, d82 w (n := (σ (2 + 2 * t) 1).toNat) (by have := w.2.1; omega) (fun i _ => rfl), rfl⟩)
theorem Dc_of {j : Nat} {as : List AV} {σ s : Sg} {v : Option AV ⊕ Nat} (h : Dd j as σ (v, s)) : Dc j as σ v s := ⟨s, h, fun _ _ => rfl⟩
/-- out of the contract and a run of the class of one's own: the relation behind it -/
theorem fc_join {j m : Nat} {as am : List AV} {q : Nat → Option Int} {σ s : Sg} {c v : Int} (F : FcR j m as am q σ c) (hD : Dd j as σ (rI v s)) : ∃ s2, Dc j as σ (.inl (some (.inl v))) s2 ∧ Rel c s2 ∧ ∀ a, a < 682 → s2 a = s a := by
  obtain ⟨s1, -, ⟨v', s2, ⟨s', h1, h2⟩, -, h4, -⟩ | ⟨E, b, s2, ⟨s', h1, h2⟩, -⟩⟩ := F
  · have e := Gd_det h1 hD
    cases e
    exact ⟨s2, ⟨s, hD, h2⟩, h4, fun a ha => (h2 a ha).symm⟩
  · have e := Gd_det h1 hD
    cases e
theorem fc_joinB {j m : Nat} {as am : List AV} {q : Nat → Option Int} {σ s : Sg} {c v : Int} (F : FcB j m as am q σ c) (hD : Dd j as σ (rI v s)) : ∃ s2, Dc j as σ (.inl (some (.inl v))) s2 ∧ Rel c s2 ∧ ∀ a, a < 682 → s2 a = s a := by
  obtain ⟨s1, -, ⟨v', b, s2, ⟨s', h1, h2⟩, -, -, h4, -⟩ | ⟨E, b, s2, ⟨s', h1, h2⟩, -⟩⟩ := F
  · have e := Gd_det h1 hD
    cases e
    exact ⟨s2, ⟨s, hD, h2⟩, h4, fun a ha => (h2 a ha).symm⟩
  · have e := Gd_det h1 hD
    cases e
end
-- DRAFT a5la.lean
/-! The law's small methods: sizes, texts that are the same, marks. -/
noncomputable section
abbrev rO (v : Int) (w : WS) : Ro := (.inl (some (.inl v)), w)
/-- which row of a patch: the old text, or the new one -/
abbrev sd (b : Int) : Nat := if b = 0 then 1 else 3
def pl (σ : Sg) (p : Nat) (b : Int) : Int := σ (20 + 13 * p + sd b) 1
def px (σ : Sg) (p : Nat) (b : Int) (k : Nat) : Int := σ (20 + 13 * p + sd b + 1) k
theorem pl_ok {σ : Sg} {c : Int} {p : Nat} {b : Int} (H : Rel c σ) (hp : (p : Int) < σ 0 3) : 0 ≤ pl σ p b ∧ pl σ p b ≤ 16 ∧ ∀ k : Nat, (k : Int) < pl σ p b → isLn (px σ p b k) = true := by
  obtain ⟨-, -, hO, h1, h3⟩ := pat_ok H hp
  unfold pl px sd
  by_cases hb : b = 0
  · rw [if_pos hb]
    exact ⟨h1, hO.1, fun k hk => hO.2.2.2.2.2.2.2.1 k hk⟩
  · rw [if_neg hb]
    exact ⟨h3, hO.2.1, fun k hk => hO.2.2.2.2.2.2.2.2.1 k hk⟩
theorem txl_ok {σ : Sg} {c : Int} {t : Nat} (H : Rel c σ) (ht : t < 4) : 0 ≤ σ (2 + 2 * t) 1 ∧ σ (2 + 2 * t) 1 ≤ 16 ∧ ∀ k : Nat, (k : Int) < σ (2 + 2 * t) 1 → isLn (σ (2 + 2 * t + 1) k) = true := by
  have h := rel_t H (t := (t : Int)) (by omega)
  rw [Int.toNat_natCast] at h
  exact ⟨h.2.1, h.2.2, fun k hk => (H.2.2.1 t ht).2 k hk⟩
theorem q188i {σ : Sg} {c : Int} {p k : Nat} {b : Int} (H : Rel c σ) (hp : (p : Int) < σ 0 3) (hk : (k : Int) < pl σ p b) : Dc 188 [vA 0, vI p, vI b, vI k] σ (.inl (some (.inl (px σ p b k)))) σ := by
  have d := q188 (k := k) (b := b) H hp
  rw [atS_in hk] at d
  exact Dc_of d
theorem q188o {σ : Sg} {c : Int} {p k : Nat} {b : Int} (H : Rel c σ) (hp : (p : Int) < σ 0 3) (hk : pl σ p b ≤ (k : Int)) : Dc 188 [vA 0, vI p, vI b, vI k] σ (.inl (some (.inl (-1)))) σ := by
  have d := q188 (k := k) (b := b) H hp
  rw [atS_out hk] at d
  exact Dc_of d
/-- areSame, of texts that are -/
theorem ll247 {w : WS} {c : Int} {t u n : Nat} (H : Rel c w.2.2) (ht : t < 4) (hu : u < 4) (hn : w.2.2 (2 + 2 * t) 1 = (n : Nat)) (hm : w.2.2 (2 + 2 * u) 1 = (n : Nat)) (hs : ∀ k, k < n → w.2.2 (2 + 2 * t + 1) k = w.2.2 (2 + 2 * u + 1) k) : ∀ (d i r : Nat), i + d = n → 5 * d + 1 ≤ r → K247_22 t u 1 i w r (rO 1 w) := by
  have h16 := (txl_ok H ht).2.1
  intro d
  induction d with
  | zero =>
    intro i r hi hr
    refine bK247_22 ⟨by omega, _, _, Dc_of (q175 (σ := w.2.2) ht), ?_⟩
    rw [if_neg (by omega)]
    exact bK247_65 ⟨Or.inr rfl, rfl⟩
  | succ d ih =>
    intro i r hi hr
    refine bK247_22 ⟨by omega, _, _, Dc_of (q175 (σ := w.2.2) ht), ?_⟩
    rw [if_pos (by omega), if_neg (by decide)]
    refine ⟨by omega, _, _, Dc_of (q176 (σ := w.2.2) H ht (by omega)), by omega, _, _, Dc_of (q176 (σ := w.2.2) H hu (by omega)), ?_⟩
    rw [if_pos (hs i (by omega))]
    refine bK247_58 ⟨by omega, ?_⟩
    exact ih (i + 1) _ (by omega) (by omega)
theorem m247 {w : WS} {c : Int} {t u : Nat} (H : Rel c w.2.2) (ht : t < 4) (hu : u < 4) (hs : smP w.2.2 (2 + 2 * t) (2 + 2 * u)) : Lx 247 [vA 0, vI t, vI u] w (rO 1 w) := by
  obtain ⟨n, hn⟩ := Int.eq_ofNat_of_zero_le (txl_ok H ht).1
  have h16 := (txl_ok H ht).2.1
  refine lb247 ⟨by decide, _, _, Dc_of (q175 (σ := w.2.2) ht), by decide, _, _, Dc_of (q175 (σ := w.2.2) hu), ?_⟩
  rw [if_pos hs.1]
  exact bK247_18 (ll247 H ht hu hn (hs.1.symm.trans hn) (fun k hk => hs.2 k (by omega)) n 0 _ (by omega) (by omega))
/-- sizeOf: how many lines a text of a patch has -/
theorem ll250 {w : WS} {c : Int} {p n : Nat} {b : Int} (H : Rel c w.2.2) (hp : (p : Int) < w.2.2 0 3) (hn : pl w.2.2 p b = (n : Nat)) : ∀ (d i r : Nat), i + d = n → 2 * d + 2 ≤ r → K250_2 p b i w r (rO n w) := by
  intro d
  have h16 := (pl_ok (b := b) H hp).2.1
  induction d with
  | zero =>
    intro i r hi hr
    refine bK250_2 ⟨by omega, _, _, q188o (σ := w.2.2) H hp (by omega), ?_⟩
    rw [if_pos rfl, show n = i by omega]
    rfl
  | succ d ih =>
    intro i r hi hr
    refine bK250_2 ⟨by omega, _, _, q188i (σ := w.2.2) H hp (by omega), ?_⟩
    have := isLn_nn ((pl_ok (b := b) H hp).2.2 i (by omega))
    rw [if_neg (by omega)]
    refine ⟨by omega, ?_⟩
    exact ih (i + 1) _ (by omega) (by omega)
theorem m250 {w : WS} {c : Int} {p : Nat} {b : Int} (H : Rel c w.2.2) (hp : (p : Int) < w.2.2 0 3) : Lx 250 [vA 0, vI p, vI b] w (rO (pl w.2.2 p b) w) := by
  obtain ⟨h0, h16, -⟩ := pl_ok (b := b) H hp
  obtain ⟨n, hn⟩ := Int.eq_ofNat_of_zero_le h0
  rw [hn]
  exact lb250 (ll250 H hp hn n 0 40 (by omega) (by omega))
/-- a text of a patch is a text -/
def pT (σ : Sg) (p : Nat) (b : Int) (t : Nat) : Prop := pl σ p b = σ (2 + 2 * t) 1 ∧ ∀ k : Nat, (k : Int) < pl σ p b → px σ p b k = σ (2 + 2 * t + 1) k
theorem ll251 {w : WS} {c : Int} {p t n : Nat} {b : Int} (H : Rel c w.2.2) (hp : (p : Int) < w.2.2 0 3) (ht : t < 4) (hs : pT w.2.2 p b t) (hn : pl w.2.2 p b = (n : Nat)) : ∀ (d i r : Nat), i + d = n → 5 * d + 1 ≤ r → K251_24 p b t 1 i w r (rO 1 w) := by
  have h16 := (pl_ok (b := b) H hp).2.1
  intro d
  have hs1 := hs.1
  induction d with
  | zero =>
    intro i r hi hr
    refine bK251_24 ⟨by omega, _, _, Dc_of (q175 (σ := w.2.2) ht), ?_⟩
    rw [if_neg (by omega)]
    exact bK251_70 ⟨Or.inr rfl, rfl⟩
  | succ d ih =>
    intro i r hi hr
    refine bK251_24 ⟨by omega, _, _, Dc_of (q175 (σ := w.2.2) ht), ?_⟩
    rw [if_pos (by omega), if_neg (by decide)]
    refine ⟨by omega, _, _, q188i (σ := w.2.2) H hp (by omega), by omega, _, _, Dc_of (q176 (σ := w.2.2) H ht (by omega)), ?_⟩
    rw [if_pos (hs.2 i (by omega))]
    refine bK251_62 ⟨by omega, ?_⟩
    exact ih (i + 1) _ (by omega) (by omega)
theorem m251 {w : WS} {c : Int} {p t : Nat} {b : Int} (H : Rel c w.2.2) (hp : (p : Int) < w.2.2 0 3) (ht : t < 4) (hs : pT w.2.2 p b t) : Lx 251 [vA 0, vI p, vI b, vI t] w (rO 1 w) := by
  obtain ⟨h0, h16, -⟩ := pl_ok (b := b) H hp
  obtain ⟨n, hn⟩ := Int.eq_ofNat_of_zero_le h0
  refine lb251 ⟨by decide, _, _, m250 H hp, by decide, _, _, Dc_of (q175 (σ := w.2.2) ht), ?_⟩
  rw [if_pos hs.1]
  exact bK251_19 (ll251 H hp ht hs hn n 0 _ (by omega) (by omega))
/-- two texts of patches are the same -/
def pS (σ : Sg) (p : Nat) (b : Int) (q : Nat) (e : Int) : Prop := pl σ p b = pl σ q e ∧ ∀ k : Nat, (k : Int) < pl σ p b → px σ p b k = px σ q e k
theorem ll252 {w : WS} {c : Int} {p q n : Nat} {b e : Int} (H : Rel c w.2.2) (hp : (p : Int) < w.2.2 0 3) (hq : (q : Int) < w.2.2 0 3) (hn : pl w.2.2 p b = (n : Nat)) (hm : pl w.2.2 q e = (n : Nat)) : ∀ (d i r : Nat), i + d = n → 6 * d + 2 ≤ r → ((∀ k, i ≤ k → k < n → px w.2.2 p b k = px w.2.2 q e k) → K252_26 p b q e 1 i w r (rO 1 w)) ∧ ((¬ ∀ k, i ≤ k → k < n → px w.2.2 p b k = px w.2.2 q e k) → K252_26 p b q e 1 i w r (rO 0 w)) := by
  have h16 := (pl_ok (b := b) H hp).2.1
  intro d
  induction d with
  | zero =>
    intro i r hi hr
    refine ⟨fun _ => ?_, fun h => absurd (fun k h1 h2 => by omega) h⟩
    refine bK252_26 ?_
    rw [if_neg (by decide)]
    refine ⟨by omega, _, _, q188o (σ := w.2.2) H hp (by omega), ?_⟩
    rw [if_pos rfl]
    exact bK252_76 ⟨Or.inr rfl, rfl⟩
  | succ d ih =>
    intro i r hi hr
    have hnn := isLn_nn ((pl_ok (b := b) H hp).2.2 i (by omega))
    have key : ∀ o : Ro, (px w.2.2 p b i = px w.2.2 q e i → ∀ r', 6 * d + 2 ≤ r' → K252_26 p b q e 1 (i + 1 : Nat) w r' o) → (¬ px w.2.2 p b i = px w.2.2 q e i → o = rO 0 w) → K252_26 p b q e 1 i w r o := by
      intro o h1 h2
      refine bK252_26 ?_
      rw [if_neg (by decide)]
      refine ⟨by omega, _, _, q188i (σ := w.2.2) H hp (by omega), ?_⟩
      rw [if_neg (by omega)]
      refine ⟨by omega, _, _, q188i (σ := w.2.2) H hp (by omega), by omega, _, _, q188i (σ := w.2.2) H hq (by omega), ?_⟩
      by_cases hc : px w.2.2 p b i = px w.2.2 q e i
      · rw [if_pos hc]
        exact bK252_68 ⟨by omega, h1 hc _ (by omega)⟩
      · rw [if_neg hc]
        refine bK252_68 ⟨by omega, bK252_26 ?_⟩
        rw [if_pos rfl]
        exact bK252_76 ⟨Or.inl rfl, h2 hc⟩
    constructor
    · intro h
      refine key _ (fun hc r' hr' => (ih (i + 1) r' (by omega) hr').1 (fun k h1 h2 => h k (by omega) h2)) (fun hc => absurd (h i (Nat.le_refl _) (by omega)) hc)
    · intro h
      refine key _ (fun hc r' hr' => (ih (i + 1) r' (by omega) hr').2 (fun h9 => h (fun k h1 h2 => ?_))) (fun _ => rfl)
      by_cases hk : k = i
      · rw [hk]; exact hc
      · exact h9 k (by omega) h2
theorem m252 {w : WS} {c : Int} {p q : Nat} {b e : Int} (H : Rel c w.2.2) (hp : (p : Int) < w.2.2 0 3) (hq : (q : Int) < w.2.2 0 3) : (pS w.2.2 p b q e → Lx 252 [vA 0, vI p, vI b, vI q, vI e] w (rO 1 w)) ∧ (¬ pS w.2.2 p b q e → Lx 252 [vA 0, vI p, vI b, vI q, vI e] w (rO 0 w)) := by
  obtain ⟨h0, h16, -⟩ := pl_ok (b := b) H hp
  obtain ⟨n, hn⟩ := Int.eq_ofNat_of_zero_le h0
  have key : ∀ o : Ro, (pl w.2.2 p b = pl w.2.2 q e → ∀ r, 6 * n + 2 ≤ r → K252_26 p b q e 1 0 w r o) → (¬ pl w.2.2 p b = pl w.2.2 q e → o = rO 0 w) → Lx 252 [vA 0, vI p, vI b, vI q, vI e] w o := by
    intro o h1 h2
    refine lb252 ⟨by decide, _, _, m250 H hp, by decide, _, _, m250 H hq, ?_⟩
    by_cases hc : pl w.2.2 p b = pl w.2.2 q e
    · rw [if_pos hc]
      exact bK252_21 (h1 hc _ (by omega))
    · rw [if_neg hc]
      refine bK252_21 (bK252_26 ?_)
      rw [if_pos rfl]
      exact bK252_76 ⟨Or.inl rfl, h2 hc⟩
  constructor
  · intro h
    exact key _ (fun hc r hr => (ll252 H hp hq hn (hc.symm.trans hn) n 0 r (by omega) hr).1 (fun k _ hk => h.2 k (by omega))) (fun hc => absurd h.1 hc)
  · intro h
    exact key _ (fun hc r hr => (ll252 H hp hq hn (hc.symm.trans hn) n 0 r (by omega) hr).2 (fun h9 => h ⟨hc, fun k hk => h9 k (by omega) (by omega)⟩)) (fun _ => rfl)
/-- isTop, of the text of the stack -/
theorem ll268 {w : WS} {c : Int} {t n : Nat} (H : Rel c w.2.2) (ht : t < 4) (hn : w.2.2 (2 + 2 * t) 1 = (n : Nat)) (hs : smP w.2.2 (2 + 2 * t) (tpR w.2.2)) : ∀ (d i r : Nat), i + d = n → 4 * d + 1 ≤ r → K268_21 t 1 i w r (rO 1 w) := by
  have h16 := (txl_ok H ht).2.1
  intro d
  have hs1 := hs.1
  induction d with
  | zero =>
    intro i r hi hr
    refine bK268_21 ⟨by omega, _, _, Dc_of (q175 (σ := w.2.2) ht), ?_⟩
    rw [if_neg (by omega)]
    exact ⟨Or.inr rfl, rfl⟩
  | succ d ih =>
    intro i r hi hr
    refine bK268_21 ⟨by omega, _, _, Dc_of (q175 (σ := w.2.2) ht), ?_⟩
    rw [if_pos (by omega), if_neg (by decide)]
    have d210 := q210 (k := i) H
    rw [atS_in (by omega)] at d210
    refine ⟨by omega, _, _, Dc_of d210, by omega, _, _, Dc_of (q176 (σ := w.2.2) H ht (by omega)), ?_⟩
    rw [if_pos (hs.2 i (by omega)).symm]
    refine bK268_53 ⟨by omega, ?_⟩
    exact ih (i + 1) _ (by omega) (by omega)
theorem m268 {w : WS} {c : Int} {t : Nat} (H : Rel c w.2.2) (ht : t < 4) (hs : smP w.2.2 (2 + 2 * t) (tpR w.2.2)) : Lx 268 [vA 0, vI t] w (rO 1 w) := by
  obtain ⟨n, hn⟩ := Int.eq_ofNat_of_zero_le (txl_ok H ht).1
  have h16 := (txl_ok H ht).2.1
  have hs1 := hs.1
  have d210 := q210 (k := n) H
  rw [atS_out (by omega)] at d210
  refine lb268 ⟨by decide, _, _, Dc_of (q175 (σ := w.2.2) ht), by decide, ?_⟩
  rw [hn]
  refine ⟨_, _, Dc_of d210, ?_⟩
  rw [if_pos rfl]
  exact bK268_18 (ll268 H ht hn hs n 0 _ (by omega) (by omega))
/-- sizeOfRow -/
theorem bl_ok {σ : Sg} {c : Int} {t : Nat} (H : Rel c σ) (ht : t < 4) : 0 ≤ σ (11 + 2 * t) 1 ∧ σ (11 + 2 * t) 1 ≤ 40 ∧ ∀ k : Nat, (k : Int) < σ (11 + 2 * t) 1 → 0 ≤ σ (11 + 2 * t + 1) k ∧ σ (11 + 2 * t + 1) k ≤ 255 := by
  have h := rel_b H (t := (t : Int)) (by omega)
  rw [Int.toNat_natCast] at h
  exact ⟨h.2.1, h.2.2, fun k hk => (H.2.2.2.1 t ht).2 k hk⟩
theorem ll274 {w : WS} {c : Int} {t n : Nat} (H : Rel c w.2.2) (ht : t < 4) (hn : w.2.2 (11 + 2 * t) 1 = (n : Nat)) : ∀ (d i r : Nat), i + d = n → 2 * d + 2 ≤ r → K274_2 t i w r (rO n w) := by
  intro d
  have h40 := (bl_ok H ht).2.1
  induction d with
  | zero =>
    intro i r hi hr
    have d221 := q221 (k := i) H ht
    rw [atS_out (by omega)] at d221
    refine bK274_2 ⟨by omega, _, _, Dc_of d221, ?_⟩
    rw [if_pos rfl, show n = i by omega]
    rfl
  | succ d ih =>
    intro i r hi hr
    have d221 := q221 (k := i) H ht
    rw [atS_in (by omega)] at d221
    refine bK274_2 ⟨by omega, _, _, Dc_of d221, ?_⟩
    have := ((bl_ok H ht).2.2 i (by omega)).1
    rw [if_neg (by omega)]
    exact ⟨by omega, ih (i + 1) _ (by omega) (by omega)⟩
theorem m274 {w : WS} {c : Int} {t : Nat} (H : Rel c w.2.2) (ht : t < 4) : Lx 274 [vA 0, vI t] w (rO (w.2.2 (11 + 2 * t) 1) w) := by
  obtain ⟨h0, h40, -⟩ := bl_ok H ht
  obtain ⟨n, hn⟩ := Int.eq_ofNat_of_zero_le h0
  rw [hn]
  exact lb274 (ll274 H ht hn n 0 90 (by omega) (by omega))
/-- hasMarks -/
def mkd (σ : Sg) (p : Nat) (b : Int) : Prop := ∃ k : Nat, (k : Int) < pl σ p b ∧ 50000 < px σ p b k
theorem ll265a {w : WS} {c : Int} {p n : Nat} (H : Rel c w.2.2) (hp : (p : Int) < w.2.2 0 3) (hn : pl w.2.2 p 1 = (n : Nat)) (h16 : n ≤ 16) : ∀ (d i r : Nat) (x : Int), i + d = n → 4 * d + 2 ≤ r → (x = 0 ∨ x = 1) → ∃ v : Int, (v = 0 ∨ v = 1) ∧ (v = 1 ↔ x = 1 ∨ ∃ k, i ≤ k ∧ k < n ∧ 50000 < px w.2.2 p 1 k) ∧ K265_45 p x i w r (rO v w) := by
  intro d
  induction d with
  | zero =>
    intro i r x hi hr hx
    refine ⟨x, hx, ⟨fun h => Or.inl h, fun h => h.elim id (fun ⟨k, h1, h2, _⟩ => by omega)⟩, ?_⟩
    refine bK265_45 ⟨by omega, _, _, q188o (σ := w.2.2) H hp (by omega), ?_⟩
    rw [if_pos rfl]
    exact ⟨hx, rfl⟩
  | succ d ih =>
    intro i r x hi hr hx
    have hnn := isLn_nn ((pl_ok (b := 1) H hp).2.2 i (by omega))
    rcases hx with hx | hx
    · by_cases hm : 50000 < px w.2.2 p 1 i
      · obtain ⟨v, v1, v2, v3⟩ := ih (i + 1) (r - 2 - 2) 1 (by omega) (by omega) (Or.inr rfl)
        refine ⟨v, v1, ⟨fun _ => Or.inr ⟨i, by omega, by omega, hm⟩, fun _ => v2.mpr (Or.inl rfl)⟩, ?_⟩
        refine bK265_45 ⟨by omega, _, _, q188i (σ := w.2.2) H hp (by omega), ?_⟩
        rw [if_neg (by omega), if_pos hx]
        refine ⟨by omega, _, _, q188i (σ := w.2.2) H hp (by omega), ?_⟩
        rw [if_pos hm]
        exact bK265_72 (bK265_77 ⟨by omega, v3⟩)
      · obtain ⟨v, v1, v2, v3⟩ := ih (i + 1) (r - 2 - 2) 0 (by omega) (by omega) (Or.inl rfl)
        refine ⟨v, v1, ⟨fun h => ?_, fun h => ?_⟩, ?_⟩
        · rcases v2.mp h with h | ⟨k, h1, h2, h3⟩
          · cases h
          · exact Or.inr ⟨k, by omega, h2, h3⟩
        · rcases h with h | ⟨k, h1, h2, h3⟩
          · rw [hx] at h; cases h
          · refine v2.mpr (Or.inr ⟨k, ?_, h2, h3⟩)
            have : ¬ k = i := fun e => hm (e ▸ h3)
            omega
        · refine bK265_45 ⟨by omega, _, _, q188i (σ := w.2.2) H hp (by omega), ?_⟩
          rw [if_neg (by omega), if_pos hx]
          refine ⟨by omega, _, _, q188i (σ := w.2.2) H hp (by omega), ?_⟩
          rw [if_neg hm]
          exact bK265_77 ⟨by omega, v3⟩
    · obtain ⟨v, v1, v2, v3⟩ := ih (i + 1) (r - 2) 1 (by omega) (by omega) (Or.inr rfl)
      refine ⟨v, v1, ⟨fun _ => Or.inl hx, fun _ => v2.mpr (Or.inl rfl)⟩, ?_⟩
      refine bK265_45 ⟨by omega, _, _, q188i (σ := w.2.2) H hp (by omega), ?_⟩
      rw [if_neg (by omega), if_neg (by omega)]
      exact bK265_72 (bK265_77 ⟨by omega, v3⟩)
theorem ll265b {w : WS} {c : Int} {p n m : Nat} (H : Rel c w.2.2) (hp : (p : Int) < w.2.2 0 3) (hn : pl w.2.2 p 0 = (n : Nat)) (hm : pl w.2.2 p 1 = (m : Nat)) (h16 : n ≤ 16) (h16' : m ≤ 16) : ∀ (d i r : Nat) (x : Int), i + d = n → 4 * d + 2 + (4 * m + 2) ≤ r → (x = 0 ∨ x = 1) → ∃ v : Int, (v = 0 ∨ v = 1) ∧ (v = 1 ↔ (x = 1 ∨ ∃ k, i ≤ k ∧ k < n ∧ 50000 < px w.2.2 p 0 k) ∨ ∃ k, k < m ∧ 50000 < px w.2.2 p 1 k) ∧ K265_4 p x i w r (rO v w) := by
  intro d
  induction d with
  | zero =>
    intro i r x hi hr hx
    obtain ⟨v, v1, v2, v3⟩ := ll265a H hp hm h16' m 0 (r - 2) x (by omega) (by omega) hx
    refine ⟨v, v1, ⟨fun h => ?_, fun h => ?_⟩, ?_⟩
    · rcases v2.mp h with h | ⟨k, h1, h2, h3⟩
      · exact Or.inl (Or.inl h)
      · exact Or.inr ⟨k, h2, h3⟩
    · rcases h with (h | ⟨k, h1, h2, h3⟩) | ⟨k, h2, h3⟩
      · exact v2.mpr (Or.inl h)
      · omega
      · exact v2.mpr (Or.inr ⟨k, Nat.zero_le _, h2, h3⟩)
    · refine bK265_4 ⟨by omega, _, _, q188o (σ := w.2.2) H hp (by omega), ?_⟩
      rw [if_pos rfl]
      exact v3
  | succ d ih =>
    intro i r x hi hr hx
    have hnn := isLn_nn ((pl_ok (b := 0) H hp).2.2 i (by omega))
    rcases hx with hx | hx
    · by_cases hm9 : 50000 < px w.2.2 p 0 i
      · obtain ⟨v, v1, v2, v3⟩ := ih (i + 1) (r - 2 - 2) 1 (by omega) (by omega) (Or.inr rfl)
        refine ⟨v, v1, ⟨fun _ => Or.inl (Or.inr ⟨i, by omega, by omega, hm9⟩), fun _ => v2.mpr (Or.inl (Or.inl rfl))⟩, ?_⟩
        refine bK265_4 ⟨by omega, _, _, q188i (σ := w.2.2) H hp (by omega), ?_⟩
        rw [if_neg (by omega), if_pos hx]
        refine ⟨by omega, _, _, q188i (σ := w.2.2) H hp (by omega), ?_⟩
        rw [if_pos hm9]
        exact bK265_31 (bK265_36 ⟨by omega, v3⟩)
      · obtain ⟨v, v1, v2, v3⟩ := ih (i + 1) (r - 2 - 2) 0 (by omega) (by omega) (Or.inl rfl)
        refine ⟨v, v1, ⟨fun h => ?_, fun h => ?_⟩, ?_⟩
        · rcases v2.mp h with (h | ⟨k, h1, h2, h3⟩) | h
          · cases h
          · exact Or.inl (Or.inr ⟨k, by omega, h2, h3⟩)
          · exact Or.inr h
        · rcases h with (h | ⟨k, h1, h2, h3⟩) | h
          · rw [hx] at h; cases h
          · refine v2.mpr (Or.inl (Or.inr ⟨k, ?_, h2, h3⟩))
            have : ¬ k = i := fun e => hm9 (e ▸ h3)
            omega
          · exact v2.mpr (Or.inr h)
        · refine bK265_4 ⟨by omega, _, _, q188i (σ := w.2.2) H hp (by omega), ?_⟩
          rw [if_neg (by omega), if_pos hx]
          refine ⟨by omega, _, _, q188i (σ := w.2.2) H hp (by omega), ?_⟩
          rw [if_neg hm9]
          exact bK265_36 ⟨by omega, v3⟩
    · obtain ⟨v, v1, v2, v3⟩ := ih (i + 1) (r - 2) 1 (by omega) (by omega) (Or.inr rfl)
      refine ⟨v, v1, ⟨fun _ => Or.inl (Or.inl hx), fun _ => v2.mpr (Or.inl (Or.inl rfl))⟩, ?_⟩
      refine bK265_4 ⟨by omega, _, _, q188i (σ := w.2.2) H hp (by omega), ?_⟩
      rw [if_neg (by omega), if_neg (by omega)]
      exact bK265_31 (bK265_36 ⟨by omega, v3⟩)
theorem m265 {w : WS} {c : Int} {p : Nat} (H : Rel c w.2.2) (hp : (p : Int) < w.2.2 0 3) : ∃ v : Int, (v = 0 ∨ v = 1) ∧ (v = 1 ↔ mkd w.2.2 p 0 ∨ mkd w.2.2 p 1) ∧ Lx 265 [vA 0, vI p] w (rO v w) := by
  obtain ⟨h0, h16, -⟩ := pl_ok (b := 0) H hp
  obtain ⟨h0', h16', -⟩ := pl_ok (b := 1) H hp
  obtain ⟨n, hn⟩ := Int.eq_ofNat_of_zero_le h0
  obtain ⟨m, hm⟩ := Int.eq_ofNat_of_zero_le h0'
  obtain ⟨v, v1, v2, v3⟩ := ll265b H hp hn hm (by omega) (by omega) n 0 150 0 (by omega) (by omega) (Or.inl rfl)
  refine ⟨v, v1, ⟨fun h => ?_, fun h => ?_⟩, lb265 v3⟩
  · rcases v2.mp h with (h | ⟨k, h1, h2, h3⟩) | ⟨k, h2, h3⟩
    · cases h
    · exact Or.inl ⟨k, by omega, h3⟩
    · exact Or.inr ⟨k, by omega, h3⟩
  · rcases h with ⟨k, h2, h3⟩ | ⟨k, h2, h3⟩
    · exact v2.mpr (Or.inl (Or.inr ⟨k, Nat.zero_le _, by omega, h3⟩))
    · exact v2.mpr (Or.inr ⟨k, by omega, h3⟩)
/-- haveSamePairs -/
theorem ll256 {w : WS} {c : Int} {p q n : Nat} (H : Rel c w.2.2) (hp : (p : Int) < w.2.2 0 3) (hq : (q : Int) < w.2.2 0 3) (hn : pl w.2.2 p 0 = (n : Nat)) (hm : pl w.2.2 q 0 = (n : Nat)) (h16 : n ≤ 16) : ∀ (d i r : Nat) (x : Int), i + d = n → 6 * d + 2 ≤ r → (x = 0 ∨ x = 1) → ∃ v : Int, (v = 0 ∨ v = 1) ∧ (v = 1 ↔ x = 1 ∧ ∀ k, i ≤ k → k < n → w.2.2 (20 + 13 * p + 6) k = w.2.2 (20 + 13 * q + 6) k) ∧ K256_5 p q x i w r (rO v w) := by
  intro d
  induction d with
  | zero =>
    intro i r x hi hr hx
    refine ⟨x, hx, ⟨fun h => ⟨h, fun k h1 h2 => by omega⟩, fun h => h.1⟩, ?_⟩
    refine bK256_5 ⟨by omega, _, _, q188o (σ := w.2.2) H hp (by omega), ?_⟩
    rw [if_pos rfl]
    exact ⟨hx, rfl⟩
  | succ d ih =>
    intro i r x hi hr hx
    have hnn := isLn_nn ((pl_ok (b := 0) H hp).2.2 i (by omega))
    rcases hx with hx | hx
    · obtain ⟨v, v1, v2, v3⟩ := ih (i + 1) (r - 2) 0 (by omega) (by omega) (Or.inl rfl)
      refine ⟨v, v1, ⟨fun h => absurd (v2.mp h).1 (by decide), fun h => by rw [hx] at h; exact absurd h.1 (by decide)⟩, ?_⟩
      refine bK256_5 ⟨by omega, _, _, q188i (σ := w.2.2) H hp (by omega), ?_⟩
      rw [if_neg (by omega), if_pos hx]
      exact bK256_42 (bK256_43 ⟨by omega, v3⟩)
    · by_cases he : w.2.2 (20 + 13 * p + 6) i = w.2.2 (20 + 13 * q + 6) i
      · obtain ⟨v, v1, v2, v3⟩ := ih (i + 1) (r - 2 - 2 - 2) 1 (by omega) (by omega) (Or.inr rfl)
        refine ⟨v, v1, ⟨fun h => ⟨hx, fun k h1 h2 => ?_⟩, fun h => v2.mpr ⟨rfl, fun k h1 h2 => h.2 k (by omega) h2⟩⟩, ?_⟩
        · by_cases hk : k = i
          · rw [hk]; exact he
          · exact (v2.mp h).2 k (by omega) h2
        · refine bK256_5 ⟨by omega, _, _, q188i (σ := w.2.2) H hp (by omega), ?_⟩
          rw [if_neg (by omega), if_neg (by omega)]
          refine ⟨by omega, _, _, Dc_of (q189 (σ := w.2.2) H hp (by unfold pl sd at hn; rw [if_pos rfl] at hn; omega)), by omega, _, _, Dc_of (q189 (σ := w.2.2) H hq (by unfold pl sd at hm; rw [if_pos rfl] at hm; omega)), ?_⟩
          rw [if_pos he]
          exact bK256_43 ⟨by omega, v3⟩
      · obtain ⟨v, v1, v2, v3⟩ := ih (i + 1) (r - 2 - 2 - 2) 0 (by omega) (by omega) (Or.inl rfl)
        refine ⟨v, v1, ⟨fun h => absurd (v2.mp h).1 (by decide), fun h => absurd (h.2 i (Nat.le_refl _) (by omega)) he⟩, ?_⟩
        refine bK256_5 ⟨by omega, _, _, q188i (σ := w.2.2) H hp (by omega), ?_⟩
        rw [if_neg (by omega), if_neg (by omega)]
        refine ⟨by omega, _, _, Dc_of (q189 (σ := w.2.2) H hp (by unfold pl sd at hn; rw [if_pos rfl] at hn; omega)), by omega, _, _, Dc_of (q189 (σ := w.2.2) H hq (by unfold pl sd at hm; rw [if_pos rfl] at hm; omega)), ?_⟩
        rw [if_neg he]
        exact bK256_42 (bK256_43 ⟨by omega, v3⟩)
theorem m256 {w : WS} {c : Int} {p q : Nat} (H : Rel c w.2.2) (hp : (p : Int) < w.2.2 0 3) (hq : (q : Int) < w.2.2 0 3) (he : pl w.2.2 p 0 = pl w.2.2 q 0) : ∃ v : Int, (v = 0 ∨ v = 1) ∧ (v = 1 ↔ ∀ k : Nat, (k : Int) < pl w.2.2 p 0 → w.2.2 (20 + 13 * p + 6) k = w.2.2 (20 + 13 * q + 6) k) ∧ Lx 256 [vA 0, vI p, vI q] w (rO v w) := by
  obtain ⟨h0, h16, -⟩ := pl_ok (b := 0) H hp
  obtain ⟨n, hn⟩ := Int.eq_ofNat_of_zero_le h0
  obtain ⟨v, v1, v2, v3⟩ := ll256 H hp hq hn (he.symm.trans hn) (by omega) n 0 120 1 (by omega) (by omega) (Or.inr rfl)
  exact ⟨v, v1, ⟨fun h k hk => (v2.mp h).2 k (Nat.zero_le _) (by omega), fun h => v2.mpr ⟨rfl, fun k _ hk => h k (by omega)⟩⟩, lb256 v3⟩
end
