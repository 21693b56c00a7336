/-! A call of the class: the answer is the ghost's, the relation holds behind it. -/
noncomputable section
theorem Dd_cls {j : Nat} {as : List AV} {σ σ' : Sg} {v : Option AV ⊕ Nat} (hA : clS 682 as) (H : Dd j as σ (v, σ')) {a : Nat} (ha : 682 ≤ a) (k : Nat) : σ' a k = σ a k := by
  obtain ⟨K, h⟩ := H
  refine (cf_run (X := fun a => a < 682) K j _ _ ?_ (fun v e => by cases e) (fun a l s hs i r hr => SH0_cl σ a l s hs i r hr) h rfl).2.2 a (by omega) k
  intro u hu
  rcases List.mem_append.mp hu with hu | hu
  · obtain ⟨x, hx, ex⟩ := List.mem_map.mp hu
    cases ex
    exact hA _ hx
  · have := (List.mem_replicate.mp hu).2
    cases this
/-- the reference's cells, without the law's answer -/
def refY (a : Nat) : Prop := 682 ≤ a ∧ a < 726
def shRefY : Bool := (List.range 44).all (fun i => match SH0[682 + i]? with
  | some s => s.2.2.all (fun o => match o with
    | some (some r) => decide (682 ≤ r ∧ r < 726)
    | _ => true)
  | none => true)
set_option maxRecDepth 100000 in
theorem shRefY_ok : shRefY = true := by decide +kernel
theorem SH0_refY (σ : Nat → Nat → Int) : xlH refY (SH0, σ) := by
  intro a l s hs i r hr
  obtain ⟨j, rfl⟩ : ∃ j, a = 682 + j := ⟨a - 682, by have := l.1; omega⟩
  have h1 := List.all_eq_true.mp shRefY_ok j (List.mem_range.mpr (by have := l.2; omega))
  have hs' : SH0[682 + j]? = some s := hs
  rw [hs'] at h1
  show 682 ≤ r ∧ r < 726
  exact of_decide_eq_true (List.all_eq_true.mp h1 _ (List.mem_of_getElem? hr))
theorem Dd_refY {j : Nat} {as : List AV} {σ σ' : Sg} {v : Option AV ⊕ Nat} (hA : xlS refY as) (H : Dd j as σ (v, σ')) {a : Nat} (ha : ¬ refY a) (k : Nat) : σ' a k = σ a k := by
  obtain ⟨K, h⟩ := H
  refine (cf_run K j _ _ ?_ (fun v e => by cases e) (SH0_refY σ) h rfl).2.2 a ha k
  intro u hu
  rcases List.mem_append.mp hu with hu | hu
  · obtain ⟨x, hx, ex⟩ := List.mem_map.mp hu
    cases ex
    exact hA _ hx
  · have := (List.mem_replicate.mp hu).2
    cases this
/-- the class's call j over the joint numbers with the ghost's call m -/
def FcR (j m : Nat) (as am : List AV) (q : Nat → Option Int) (σ : Sg) (c : Int) : Prop := ∃ s1 : Sg, (∀ a k, 682 ≤ a → ¬ a = 726 → s1 a k = σ a k) ∧
  ((∃ (v : Int) (s2 : Sg), Dc j as σ (.inl (some (.inl v))) s2 ∧ Dd m am s1 (rI v s2) ∧ Rel c s2 ∧ s2 682 0 = 0) ∨
   (∃ (E : Nat) (b : Int) (s2 : Sg), Dc j as σ (.inr E) s2 ∧ Dd m am s1 (rI b s2) ∧ Rel c s2 ∧ ¬ s2 682 0 = 0 ∧ q E = some (s2 682 0)))
def FcB (j m : Nat) (as am : List AV) (q : Nat → Option Int) (σ : Sg) (c : Int) : Prop := ∃ s1 : Sg, (∀ a k, 682 ≤ a → ¬ a = 726 → s1 a k = σ a k) ∧
  ((∃ (v b : Int) (s2 : Sg), Dc j as σ (.inl (some (.inl v))) s2 ∧ Dd m am s1 (rI b s2) ∧ v = (if b = 0 then 0 else 1) ∧ Rel c s2 ∧ s2 682 0 = 0) ∨
   (∃ (E : Nat) (b : Int) (s2 : Sg), Dc j as σ (.inr E) s2 ∧ Dd m am s1 (rI b s2) ∧ Rel c s2 ∧ ¬ s2 682 0 = 0 ∧ q E = some (s2 682 0)))
theorem op_fc {w j m : Nat} {aw as am : List AV} {q : Nat → Option Int} {σ : Sg} {c : Int} (hA : clS 682 as) (hM : xlS refY am) (O : OpR w m aw am σ c) (I : ∀ {s1 : Sg} {kx : Int}, Dd w aw σ (.inl (some (.inl kx)), s1) → (∃ (v : Int) (s : Sg), Dd j as σ (.inl (some (.inl v)), s) ∧ kx = 0 ∧ s1 = upS s 726 0 v) ∨ (∃ E : Nat, Dd j as σ (.inr E, s1) ∧ ¬ kx = 0 ∧ q E = some kx)) : FcR j m as am q σ c := by
  obtain ⟨kx, b, s1, s2, d1, d2, e1, e2, -, -, -, -, R⟩ := O
  have fr : ∀ a k, ¬ refY a → s2 a k = s1 a k := fun a k h => Dd_refY hM d2 h k
  rcases I d1 with ⟨v, s, hD, hk, hs⟩ | ⟨E, hD, hk, hq⟩
  · subst hs
    have e3 := e2 hk
    rw [fr 726 0 (by unfold refY; omega), up_s] at e3
    subst e3
    refine ⟨_, fun a k h1 h2 => by rw [up_a h2]; exact Dd_cls hA hD h1 k, Or.inl ⟨v, s2, ⟨s, hD, fun a h => ?_⟩, d2, R, e1.trans hk⟩⟩
    funext k
    rw [fr a k (by unfold refY; omega), up_a (by omega)]
  · refine ⟨s1, fun a k h1 _ => Dd_cls hA hD h1 k, Or.inr ⟨E, b, s2, ⟨s1, hD, fun a h => ?_⟩, d2, R, by rw [e1]; exact hk, by rw [e1]; exact hq⟩⟩
    funext k
    rw [fr a k (by unfold refY; omega)]
theorem op_fcB {w j m : Nat} {aw as am : List AV} {q : Nat → Option Int} {σ : Sg} {c : Int} (hA : clS 682 as) (hM : xlS refY am) (O : OpB w m aw am σ c) (I : ∀ {s1 : Sg} {kx : Int}, Dd w aw σ (.inl (some (.inl kx)), s1) → (∃ (v : Int) (s : Sg), Dd j as σ (.inl (some (.inl v)), s) ∧ kx = 0 ∧ s1 = upS s 726 0 (if v = 0 then 0 else 1) ∧ (v = 0 ∨ v = 1)) ∨ (∃ E : Nat, Dd j as σ (.inr E, s1) ∧ ¬ kx = 0 ∧ q E = some kx)) : FcB j m as am q σ c := by
  obtain ⟨kx, b, s1, s2, d1, d2, e1, e2, -, -, -, -, R⟩ := O
  have fr : ∀ a k, ¬ refY a → s2 a k = s1 a k := fun a k h => Dd_refY hM d2 h k
  rcases I d1 with ⟨v, s, hD, hk, hs, hv⟩ | ⟨E, hD, hk, hq⟩
  · subst hs
    have e3 := e2 hk
    rw [fr 726 0 (by unfold refY; omega), up_s] at e3
    have e4 : v = (if b = 0 then 0 else 1) := by
      rw [← e3]
      rcases hv with h | h
      · rw [h]; rfl
      · rw [h]; rfl
    refine ⟨_, fun a k h1 h2 => by rw [up_a h2]; exact Dd_cls hA hD h1 k, Or.inl ⟨v, b, s2, ⟨s, hD, fun a h => ?_⟩, d2, e4, R, e1.trans hk⟩⟩
    funext k
    rw [fr a k (by unfold refY; omega), up_a (by omega)]
  · refine ⟨s1, fun a k h1 _ => Dd_cls hA hD h1 k, Or.inr ⟨E, b, s2, ⟨s1, hD, fun a h => ?_⟩, d2, R, by rw [e1]; exact hk, by rw [e1]; exact hq⟩⟩
    funext k
    rw [fr a k (by unfold refY; omega)]
theorem xlS_0 {as : List AV} (h : as.all (fun v => match v with
  | .inr (.inr (some a)) => decide (682 ≤ a ∧ a < 726)
  | _ => true) = true) : xlS refY as := by
  intro v hv a e
  subst e
  show 682 ≤ a ∧ a < 726
  exact of_decide_eq_true (List.all_eq_true.mp h _ hv)
theorem fc0 {σ : Sg} {c a1 a2 a3 : Int} (H : Rel c σ) : FcR 172 256 [(.inr (.inr (some 0))), (.inl a1), (.inl a2), (.inl a3)] [vA 682, vI a1, vI a2, vI a3] (fun E => hnd 390 7 E) σ (c + 1) := op_fc (clS_0 rfl) (xlS_0 rfl) (o0 H) (fun h => iw390 h)
theorem fc1 {σ : Sg} {c a1 a2 : Int} (H : Rel c σ) : FcR 173 258 [(.inr (.inr (some 0))), (.inl a1), (.inl a2)] [vA 682, vI a1, vI a2] (fun E => hnd 391 5 E) σ (c + 1) := op_fc (clS_0 rfl) (xlS_0 rfl) (o1 H) (fun h => iw391 h)
theorem fc2 {σ : Sg} {c a1 a2 : Int} (H : Rel c σ) : FcR 174 259 [(.inr (.inr (some 0))), (.inl a1), (.inl a2)] [vA 682, vI a1, vI a2] (fun E => hnd 392 5 E) σ (c + 1) := op_fc (clS_0 rfl) (xlS_0 rfl) (o2 H) (fun h => iw392 h)
theorem fc3 {σ : Sg} {c a1 : Int} (H : Rel c σ) : FcR 175 260 [(.inr (.inr (some 0))), (.inl a1)] [vA 682, vI a1] (fun E => hnd 393 4 E) σ (c + 1) := op_fc (clS_0 rfl) (xlS_0 rfl) (o3 H) (fun h => iw393 h)
theorem fc4 {σ : Sg} {c a1 a2 : Int} (H : Rel c σ) : FcR 176 261 [(.inr (.inr (some 0))), (.inl a1), (.inl a2)] [vA 682, vI a1, vI a2] (fun E => hnd 394 5 E) σ (c + 1) := op_fc (clS_0 rfl) (xlS_0 rfl) (o4 H) (fun h => iw394 h)
theorem fc5 {σ : Sg} {c a1 a2 : Int} (H : Rel c σ) : FcR 177 262 [(.inr (.inr (some 0))), (.inl a1), (.inl a2)] [vA 682, vI a1, vI a2] (fun E => hnd 395 5 E) σ (c + 1) := op_fc (clS_0 rfl) (xlS_0 rfl) (o5 H) (fun h => iw395 h)
theorem fc6 {σ : Sg} {c a1 a2 a3 a4 : Int} (H : Rel c σ) : FcR 178 277 [(.inr (.inr (some 0))), (.inl a1), (.inl a2), (.inl a3), (.inl a4)] [vA 682, vI a1, vI a2, vI a3, vI a4] (fun E => hnd 396 9 E) σ (c + 1) := op_fc (clS_0 rfl) (xlS_0 rfl) (o6 H) (fun h => iw396 h)
theorem fc7 {σ : Sg} {c a1 a2 a3 : Int} (H : Rel c σ) : FcR 179 278 [(.inr (.inr (some 0))), (.inl a1), (.inl a2), (.inl a3)] [vA 682, vI a1, vI a2, vI a3] (fun E => hnd 397 7 E) σ (c + 1) := op_fc (clS_0 rfl) (xlS_0 rfl) (o7 H) (fun h => iw397 h)
theorem fc8 {σ : Sg} {c a1 a2 : Int} (H : Rel c σ) : FcR 180 279 [(.inr (.inr (some 0))), (.inl a1), (.inl a2)] [vA 682, vI a1, vI a2] (fun E => hnd 398 5 E) σ (c + 1) := op_fc (clS_0 rfl) (xlS_0 rfl) (o8 H) (fun h => iw398 h)
theorem fc9 {σ : Sg} {c a1 a2 a3 : Int} (H : Rel c σ) : FcR 181 299 [(.inr (.inr (some 0))), (.inl a1), (.inl a2), (.inl a3)] [vA 682, vI a1, vI a2, vI a3] (fun E => hnd 399 7 E) σ (c + 1) := op_fc (clS_0 rfl) (xlS_0 rfl) (o9 H) (fun h => iw399 h)
theorem fc10 {σ : Sg} {c a1 : Int} (H : Rel c σ) : FcR 182 300 [(.inr (.inr (some 0))), (.inl a1)] [vA 682, vI a1] (fun E => hnd 400 4 E) σ (c + 1) := op_fc (clS_0 rfl) (xlS_0 rfl) (o10 H) (fun h => iw400 h)
theorem fc11 {σ : Sg} {c a1 a2 : Int} (H : Rel c σ) : FcR 183 301 [(.inr (.inr (some 0))), (.inl a1), (.inl a2)] [vA 682, vI a1, vI a2] (fun E => hnd 401 5 E) σ (c + 1) := op_fc (clS_0 rfl) (xlS_0 rfl) (o11 H) (fun h => iw401 h)
theorem fc12 {σ : Sg} {c a1 a2 : Int} (H : Rel c σ) : FcB 184 302 [(.inr (.inr (some 0))), (.inl a1), (.inl a2)] [vA 682, vI a1, vI a2] (fun E => hnd 402 5 E) σ (c + 1) := op_fcB (clS_0 rfl) (xlS_0 rfl) (o12 H) (fun h => iw402 h)
theorem fc13 {σ : Sg} {c a1 a2 a3 : Int} (H : Rel c σ) : FcR 185 303 [(.inr (.inr (some 0))), (.inl a1), (.inl a2), (.inl a3)] [vA 682, vI a1, vI a2, vI a3] (fun E => hnd 403 7 E) σ (c + 1) := op_fc (clS_0 rfl) (xlS_0 rfl) (o13 H) (fun h => iw403 h)
theorem fc14 {σ : Sg} {c a1 a2 a3 a4 a5 : Int} (H : Rel c σ) : FcR 186 305 [(.inr (.inr (some 0))), (.inl a1), (.inl a2), (.inl a3), (.inl a4), (.inl a5)] [vA 682, vI a1, vI a2, vI a3, vI a4, vI a5] (fun E => hnd 404 11 E) σ (c + 1) := op_fc (clS_0 rfl) (xlS_0 rfl) (o14 H) (fun h => iw404 h)
theorem fc16 {σ : Sg} {c a1 a2 a3 : Int} (H : Rel c σ) (hb : a2 = 0 ∨ a2 = 1) : FcR 188 307 [(.inr (.inr (some 0))), (.inl a1), (.inl a2), (.inl a3)] [vA 682, vI a1, vI a2, vI a3] (fun E => hnd 405 7 E) σ (c + 1) := op_fc (clS_0 rfl) (xlS_0 rfl) (o16 H hb) (fun h => iw405 h)
theorem fc17 {σ : Sg} {c a1 a2 : Int} (H : Rel c σ) : FcR 189 309 [(.inr (.inr (some 0))), (.inl a1), (.inl a2)] [vA 682, vI a1, vI a2] (fun E => hnd 406 5 E) σ (c + 1) := op_fc (clS_0 rfl) (xlS_0 rfl) (o17 H) (fun h => iw406 h)
theorem fc18 {σ : Sg} {c a1 : Int} (H : Rel c σ) : FcR 190 310 [(.inr (.inr (some 0))), (.inl a1)] [vA 682, vI a1] (fun E => hnd 407 4 E) σ (c + 1) := op_fc (clS_0 rfl) (xlS_0 rfl) (o18 H) (fun h => iw407 h)
theorem fc19 {σ : Sg} {c a1 a2 a3 : Int} (H : Rel c σ) : FcR 191 311 [(.inr (.inr (some 0))), (.inl a1), (.inl a2), (.inl a3)] [vA 682, vI a1, vI a2, vI a3] (fun E => hnd 408 7 E) σ (c + 1) := op_fc (clS_0 rfl) (xlS_0 rfl) (o19 H) (fun h => iw408 h)
theorem fc20 {σ : Sg} {c a1 a2 : Int} (H : Rel c σ) : FcR 192 316 [(.inr (.inr (some 0))), (.inl a1), (.inl a2)] [vA 682, vI a1, vI a2] (fun E => hnd 409 5 E) σ (c + 1) := op_fc (clS_0 rfl) (xlS_0 rfl) (o20 H) (fun h => iw409 h)
theorem fc21 {σ : Sg} {c a1 a2 : Int} (H : Rel c σ) : FcB 193 317 [(.inr (.inr (some 0))), (.inl a1), (.inl a2)] [vA 682, vI a1, vI a2] (fun E => hnd 410 5 E) σ (c + 1) := op_fcB (clS_0 rfl) (xlS_0 rfl) (o21 H) (fun h => iw410 h)
theorem fc22 {σ : Sg} {c a1 a2 : Int} (H : Rel c σ) : FcR 194 320 [(.inr (.inr (some 0))), (.inl a1), (.inl a2)] [vA 682, vI a1, vI a2] (fun E => hnd 411 5 E) σ (c + 1) := op_fc (clS_0 rfl) (xlS_0 rfl) (o22 H) (fun h => iw411 h)
theorem fc23 {σ : Sg} {c a1 a2 a3 : Int} (H : Rel c σ) : FcR 195 326 [(.inr (.inr (some 0))), (.inl a1), (.inl a2), (.inl a3)] [vA 682, vI a1, vI a2, vI a3] (fun E => hnd 412 7 E) σ (c + 1) := op_fc (clS_0 rfl) (xlS_0 rfl) (o23 H) (fun h => iw412 h)
theorem fc24 {σ : Sg} {c a1 : Int} (H : Rel c σ) : FcR 196 327 [(.inr (.inr (some 0))), (.inl a1)] [vA 682, vI a1] (fun E => hnd 413 4 E) σ (c + 1) := op_fc (clS_0 rfl) (xlS_0 rfl) (o24 H) (fun h => iw413 h)
theorem fc25 {σ : Sg} {c a1 a2 a3 : Int} (H : Rel c σ) : FcR 197 333 [(.inr (.inr (some 0))), (.inl a1), (.inl a2), (.inl a3)] [vA 682, vI a1, vI a2, vI a3] (fun E => hnd 414 7 E) σ (c + 1) := op_fc (clS_0 rfl) (xlS_0 rfl) (o25 H) (fun h => iw414 h)
theorem fc26 {σ : Sg} {c a1 : Int} (H : Rel c σ) : FcR 198 338 [(.inr (.inr (some 0))), (.inl a1)] [vA 682, vI a1] (fun E => hnd 415 4 E) σ (c + 1) := op_fc (clS_0 rfl) (xlS_0 rfl) (o26 H) (fun h => iw415 h)
theorem fc27 {σ : Sg} {c a1 a2 a3 : Int} (H : Rel c σ) : FcR 199 339 [(.inr (.inr (some 0))), (.inl a1), (.inl a2), (.inl a3)] [vA 682, vI a1, vI a2, vI a3] (fun E => hnd 416 7 E) σ (c + 1) := op_fc (clS_0 rfl) (xlS_0 rfl) (o27 H) (fun h => iw416 h)
theorem fc28 {σ : Sg} {c a1 : Int} (H : Rel c σ) : FcR 200 343 [(.inr (.inr (some 0))), (.inl a1)] [vA 682, vI a1] (fun E => hnd 417 4 E) σ (c + 1) := op_fc (clS_0 rfl) (xlS_0 rfl) (o28 H) (fun h => iw417 h)
theorem fc29 {σ : Sg} {c a1 : Int} (H : Rel c σ) (hc9 : c < 1000000) : FcR 201 345 [(.inr (.inr (some 0))), (.inl a1)] [vA 682, vI a1] (fun E => hnd 418 4 E) σ (c + 1) := op_fc (clS_0 rfl) (xlS_0 rfl) (o29 H hc9) (fun h => iw418 h)
theorem fc30 {σ : Sg} {c : Int} (H : Rel c σ) : FcR 202 346 [(.inr (.inr (some 0)))] [vA 682] (fun E => hnd 419 3 E) σ (c + 1) := op_fc (clS_0 rfl) (xlS_0 rfl) (o30 H) (fun h => iw419 h)
theorem fc31 {σ : Sg} {c a1 : Int} (H : Rel c σ) : FcR 203 347 [(.inr (.inr (some 0))), (.inl a1)] [vA 682, vI a1] (fun E => hnd 420 4 E) σ (c + 1) := op_fc (clS_0 rfl) (xlS_0 rfl) (o31 H) (fun h => iw420 h)
theorem fc32 {σ : Sg} {c a1 : Int} (H : Rel c σ) : FcR 204 348 [(.inr (.inr (some 0))), (.inl a1)] [vA 682, vI a1] (fun E => hnd 421 4 E) σ (c + 1) := op_fc (clS_0 rfl) (xlS_0 rfl) (o32 H) (fun h => iw421 h)
theorem fc33 {σ : Sg} {c a1 : Int} (H : Rel c σ) : FcR 205 349 [(.inr (.inr (some 0))), (.inl a1)] [vA 682, vI a1] (fun E => hnd 422 4 E) σ (c + 1) := op_fc (clS_0 rfl) (xlS_0 rfl) (o33 H) (fun h => iw422 h)
theorem fc34 {σ : Sg} {c a1 a2 a3 : Int} (H : Rel c σ) : FcR 206 351 [(.inr (.inr (some 0))), (.inl a1), (.inl a2), (.inl a3)] [vA 682, vI a1, vI a2, vI a3] (fun E => hnd 423 7 E) σ (c + 1) := op_fc (clS_0 rfl) (xlS_0 rfl) (o34 H) (fun h => iw423 h)
theorem fc35 {σ : Sg} {c a1 a2 : Int} (H : Rel c σ) : FcR 207 352 [(.inr (.inr (some 0))), (.inl a1), (.inl a2)] [vA 682, vI a1, vI a2] (fun E => hnd 424 5 E) σ (c + 1) := op_fc (clS_0 rfl) (xlS_0 rfl) (o35 H) (fun h => iw424 h)
theorem fc37 {σ : Sg} {c a1 : Int} (H : Rel c σ) : FcR 209 354 [(.inr (.inr (some 0))), (.inl a1)] [vA 682, vI a1] (fun E => hnd 425 4 E) σ (c + 1) := op_fc (clS_0 rfl) (xlS_0 rfl) (o37 H) (fun h => iw425 h)
theorem fc38 {σ : Sg} {c a1 : Int} (H : Rel c σ) : FcR 210 355 [(.inr (.inr (some 0))), (.inl a1)] [vA 682, vI a1] (fun E => hnd 426 4 E) σ (c + 1) := op_fc (clS_0 rfl) (xlS_0 rfl) (o38 H) (fun h => iw426 h)
theorem fc39 {σ : Sg} {c a1 : Int} (H : Rel c σ) : FcR 211 357 [(.inr (.inr (some 0))), (.inl a1)] [vA 682, vI a1] (fun E => hnd 427 4 E) σ (c + 1) := op_fc (clS_0 rfl) (xlS_0 rfl) (o39 H) (fun h => iw427 h)
theorem fc40 {σ : Sg} {c : Int} (H : Rel c σ) : FcR 212 361 [(.inr (.inr (some 0)))] [vA 682] (fun E => hnd 428 3 E) σ (c + 1) := op_fc (clS_0 rfl) (xlS_0 rfl) (o40 H) (fun h => iw428 h)
theorem fc41 {σ : Sg} {c a1 : Int} (H : Rel c σ) : FcR 213 366 [(.inr (.inr (some 0))), (.inl a1)] [vA 682, vI a1] (fun E => hnd 429 4 E) σ (c + 1) := op_fc (clS_0 rfl) (xlS_0 rfl) (o41 H) (fun h => iw429 h)
theorem fc42 {σ : Sg} {c a1 : Int} (H : Rel c σ) : FcR 214 367 [(.inr (.inr (some 0))), (.inl a1)] [vA 682, vI a1] (fun E => hnd 430 4 E) σ (c + 1) := op_fc (clS_0 rfl) (xlS_0 rfl) (o42 H) (fun h => iw430 h)
theorem fc43 {σ : Sg} {c a1 a2 a3 : Int} (H : Rel c σ) : FcB 215 368 [(.inr (.inr (some 0))), (.inl a1), (.inl a2), (.inl a3)] [vA 682, vI a1, vI a2, vI a3] (fun E => hnd 431 7 E) σ (c + 1) := op_fcB (clS_0 rfl) (xlS_0 rfl) (o43 H) (fun h => iw431 h)
theorem fc44 {σ : Sg} {c a1 a2 : Int} (H : Rel c σ) : FcR 216 374 [(.inr (.inr (some 0))), (.inl a1), (.inl a2)] [vA 682, vI a1, vI a2] (fun E => hnd 432 5 E) σ (c + 1) := op_fc (clS_0 rfl) (xlS_0 rfl) (o44 H) (fun h => iw432 h)
theorem fc45 {σ : Sg} {c a1 a2 : Int} (H : Rel c σ) : FcR 217 375 [(.inr (.inr (some 0))), (.inl a1), (.inl a2)] [vA 682, vI a1, vI a2] (fun E => hnd 433 5 E) σ (c + 1) := op_fc (clS_0 rfl) (xlS_0 rfl) (o45 H) (fun h => iw433 h)
theorem fc46 {σ : Sg} {c a1 a2 : Int} (H : Rel c σ) : FcR 218 376 [(.inr (.inr (some 0))), (.inl a1), (.inl a2)] [vA 682, vI a1, vI a2] (fun E => hnd 434 5 E) σ (c + 1) := op_fc (clS_0 rfl) (xlS_0 rfl) (o46 H) (fun h => iw434 h)
theorem fc47 {σ : Sg} {c a1 a2 : Int} (H : Rel c σ) : FcR 219 378 [(.inr (.inr (some 0))), (.inl a1), (.inl a2)] [vA 682, vI a1, vI a2] (fun E => hnd 435 5 E) σ (c + 1) := op_fc (clS_0 rfl) (xlS_0 rfl) (o47 H) (fun h => iw435 h)
theorem fc48 {σ : Sg} {c a1 : Int} (H : Rel c σ) : FcR 220 379 [(.inr (.inr (some 0))), (.inl a1)] [vA 682, vI a1] (fun E => hnd 436 4 E) σ (c + 1) := op_fc (clS_0 rfl) (xlS_0 rfl) (o48 H) (fun h => iw436 h)
theorem fc49 {σ : Sg} {c a1 a2 : Int} (H : Rel c σ) : FcR 221 380 [(.inr (.inr (some 0))), (.inl a1), (.inl a2)] [vA 682, vI a1, vI a2] (fun E => hnd 437 5 E) σ (c + 1) := op_fc (clS_0 rfl) (xlS_0 rfl) (o49 H) (fun h => iw437 h)
theorem fc50 {σ : Sg} {c a1 a2 : Int} (H : Rel c σ) : FcR 222 382 [(.inr (.inr (some 0))), (.inl a1), (.inl a2)] [vA 682, vI a1, vI a2] (fun E => hnd 438 5 E) σ (c + 1) := op_fc (clS_0 rfl) (xlS_0 rfl) (o50 H) (fun h => iw438 h)
theorem fc51 {σ : Sg} {c a1 a2 : Int} (H : Rel c σ) : FcR 223 385 [(.inr (.inr (some 0))), (.inl a1), (.inl a2)] [vA 682, vI a1, vI a2] (fun E => hnd 439 5 E) σ (c + 1) := op_fc (clS_0 rfl) (xlS_0 rfl) (o51 H) (fun h => iw439 h)
theorem fc52 {σ : Sg} {c a1 : Int} (H : Rel c σ) : FcR 224 387 [(.inr (.inr (some 0))), (.inl a1)] [vA 682, vI a1] (fun E => hnd 440 4 E) σ (c + 1) := op_fc (clS_0 rfl) (xlS_0 rfl) (o52 H) (fun h => iw440 h)
theorem fc53 {σ : Sg} {c a1 a2 : Int} (H : Rel c σ) (hi : a2 ≤ 2147483647) : FcR 225 388 [(.inr (.inr (some 0))), (.inl a1), (.inl a2)] [vA 682, vI a1, vI a2] (fun E => hnd 441 5 E) σ (c + 1) := op_fc (clS_0 rfl) (xlS_0 rfl) (o53 H hi) (fun h => iw441 h)
theorem fc54 {σ : Sg} {c a1 a2 a3 : Int} (H : Rel c σ) : FcR 226 389 [(.inr (.inr (some 0))), (.inl a1), (.inl a2), (.inl a3)] [vA 682, vI a1, vI a2, vI a3] (fun E => hnd 442 7 E) σ (c + 1) := op_fc (clS_0 rfl) (xlS_0 rfl) (o54 H) (fun h => iw442 h)
theorem fc15 {σ : Sg} {c : Int} (H : Rel c σ) : Dc 187 [vA 0] σ (.inl (some (.inl (σ 682 3)))) σ ∧ Rel (c + 1) σ := by
  refine ⟨⟨σ, ?_, fun _ _ => rfl⟩, Rel_0 (by omega) (fun _ _ _ => rfl) H⟩
  rw [(rel_n H).1.1]
  exact b187 rfl
theorem fc36 {σ : Sg} {c : Int} (H : Rel c σ) : Dc 208 [vA 0] σ (.inl (some (.inl (σ 682 40)))) σ ∧ Rel (c + 1) σ := by
  refine ⟨⟨σ, ?_, fun _ _ => rfl⟩, Rel_0 (by omega) (fun _ _ _ => rfl) H⟩
  rw [(rel_n H).2.1.1]
  exact b208 rfl
end
