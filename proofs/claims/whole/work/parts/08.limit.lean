-- ===== runs without a count of steps =====
set_option maxHeartbeats 4000000 in
set_option maxRecDepth 100000 in
theorem ra_step_mono {f g : ra_K → Nat → ra_L → List Value → ra_S → Option ra_R} (h : ∀ κ pc lo st σ r, f κ pc lo st σ = some r → g κ pc lo st σ = some r) (κ : ra_K) (pc : Nat) (lo : ra_L) (st : List Value) (σ : ra_S) (r : ra_R) (hr : ra_step f κ pc lo st σ = some r) : ra_step g κ pc lo st σ = some r := by
  have hsw : ∀ (pc : Nat) (x : Int32) (r' : List Value) (d : Nat) (os : List Int) (v : Int), ra_tsw (fun t => f κ t lo r' σ) pc x (f κ d lo r' σ) v os = some r → ra_tsw (fun t => g κ t lo r' σ) pc x (g κ d lo r' σ) v os = some r := by
    intro pc x r' d os
    induction os with
    | nil => intro v hh; exact h _ _ _ _ _ _ hh
    | cons o os ih =>
      intro v hh
      unfold ra_tsw at hh ⊢
      split at hh
      · rename_i hc; rw [if_pos hc]; exact h _ _ _ _ _ _ hh
      · rename_i hc; rw [if_neg hc]; exact ih _ hh
  have hlw : ∀ (pc : Nat) (x : Int32) (r' : List Value) (d : Nat) (os : List (Int × Int)), ra_lsw (fun t => f κ t lo r' σ) pc x (f κ d lo r' σ) os = some r → ra_lsw (fun t => g κ t lo r' σ) pc x (g κ d lo r' σ) os = some r := by
    intro pc x r' d os
    induction os with
    | nil => intro hh; exact h _ _ _ _ _ _ hh
    | cons o os ih =>
      intro hh
      unfold ra_lsw at hh ⊢
      split at hh
      · rename_i hc; rw [if_pos hc]; exact h _ _ _ _ _ _ hh
      · rename_i hc; rw [if_neg hc]; exact ih hh
  have hki : ∀ (a b : Option ra_R) (k k' : Int32 → ra_S → Option ra_R), (∀ z, a = some z → b = some z) → (∀ x s z, k x s = some z → k' x s = some z) → a.bind (ra_ki k) = some r → b.bind (ra_ki k') = some r := by
    intro a b k k' hab hk hh
    cases a with
    | none => cases hh
    | some z =>
      rw [hab z rfl]
      show ra_ki k' z = some r
      have hh : ra_ki k z = some r := hh
      unfold ra_ki at hh ⊢
      split at hh
      · exact hk _ _ _ hh
      · cases hh
  have hkl : ∀ (a b : Option ra_R) (k k' : Int64 → ra_S → Option ra_R), (∀ z, a = some z → b = some z) → (∀ x s z, k x s = some z → k' x s = some z) → a.bind (ra_kl k) = some r → b.bind (ra_kl k') = some r := by
    intro a b k k' hab hk hh
    cases a with
    | none => cases hh
    | some z =>
      rw [hab z rfl]
      show ra_kl k' z = some r
      have hh : ra_kl k z = some r := hh
      unfold ra_kl at hh ⊢
      split at hh
      · exact hk _ _ _ hh
      · cases hh
  have hkv : ∀ (a b : Option ra_R) (k k' : ra_S → Option ra_R), (∀ z, a = some z → b = some z) → (∀ s z, k s = some z → k' s = some z) → a.bind (ra_kv k) = some r → b.bind (ra_kv k') = some r := by
    intro a b k k' hab hk hh
    cases a with
    | none => cases hh
    | some z =>
      rw [hab z rfl]
      show ra_kv k' z = some r
      have hh : ra_kv k z = some r := hh
      unfold ra_kv at hh ⊢
      split at hh
      · exact hk _ _ hh
      · cases hh
  have hgd : ∀ (b : Bool) (x y : Option ra_R), (x = some r → y = some r) → ra_gd b x = some r → ra_gd b y = some r := by
    intro b x y hxy hh
    cases b with
    | true => exact hxy hh
    | false => cases hh
  have hgp : ∀ (c : Prop) [Decidable c] (x y : Option ra_R), (x = some r → y = some r) → ra_gp c x = some r → ra_gp c y = some r := by
    intro c _ x y hxy hh
    unfold ra_gp at hh ⊢
    split at hh
    · rename_i hc; rw [if_pos hc]; exact hxy hh
    · cases hh
  have hbr : ∀ (c : Jvm.ClassFile.Cond) (x y : Int32) (a a' b b' : Option ra_R), (a = some r → a' = some r) → (b = some r → b' = some r) → ra_br c x y a b = some r → ra_br c x y a' b' = some r := by
    intro c x y a a' b b' ha hb hh
    unfold ra_br at hh ⊢
    cases c <;> dsimp only at hh ⊢ <;> split at hh <;> rename_i hc <;> (first | rw [if_pos hc] | rw [if_neg hc]) <;> first | exact ha hh | exact hb hh
  have hel : ∀ (lay : Nat → Option ra_H) (ty i : Nat) (j : Int32) (x y : Option ra_R), (x = some r → y = some r) → ra_el lay ty i j x = some r → ra_el lay ty i j y = some r := by
    intro lay ty i j x y hxy hh
    unfold ra_el at hh ⊢
    split at hh
    · refine hgd _ _ _ (fun h2 => ?_) hh
      split at h2
      · rename_i hc; rw [if_pos hc]; exact hxy h2
      · cases h2
    · cases hh
  have hfd : ∀ (lay : Nat → Option ra_H) (i ci k : Nat) (x y : (Bool ⊕ Nat) → Option ra_R), (∀ fk, x fk = some r → y fk = some r) → ra_fd lay i ci k x = some r → ra_fd lay i ci k y = some r := by
    intro lay i ci k x y hxy hh
    unfold ra_fd at hh ⊢
    split at hh
    · refine hgd _ _ _ (fun h2 => ?_) hh
      split at h2
      · exact hxy _ h2
      · cases h2
    · cases hh
  have hinv : ∀ (r' : List Value) (ν : Nat) (as : List Value), ra_inv f κ pc lo r' σ ν as = some r → ra_inv g κ pc lo r' σ ν as = some r := by
    intro r' ν as hh
    unfold ra_inv at hh ⊢
    refine hgd _ _ _ (fun h2 => ?_) hh
    split at h2
    · exact hki _ _ _ _ (fun z hz => h _ _ _ _ _ _ hz) (fun x s z hz => h _ _ _ _ _ _ hz) h2
    · exact hki _ _ _ _ (fun z hz => h _ _ _ _ _ _ hz) (fun x s z hz => h _ _ _ _ _ _ hz) h2
    · exact hkl _ _ _ _ (fun z hz => h _ _ _ _ _ _ hz) (fun x s z hz => h _ _ _ _ _ _ hz) h2
    · exact hkv _ _ _ _ (fun z hz => h _ _ _ _ _ _ hz) (fun s z hz => h _ _ _ _ _ _ hz) h2
    · cases h2
  have hac : ra_ac f κ pc lo st σ = some r → ra_ac g κ pc lo st σ = some r := by
    intro hh
    unfold ra_ac at hh ⊢
    split at hh
    · split at hh
      · split at hh
        · split at hh
          · rename_i hc
            rw [if_pos hc]
            exact hgd _ _ _ (fun h2 => h _ _ _ _ _ _ h2) hh
          · cases hh
        · cases hh
      · cases hh
    · cases hh
  unfold ra_step at hr ⊢
  cases hb : Nat.beq pc κ.2.2.1 with
  | true => rw [hb] at hr; exact hr
  | false =>
    rw [hb] at hr
    dsimp only at hr ⊢
    cases hf : κ.2.2.2.2.2.2.2.2.2 pc with
    | none => rw [hf] at hr; cases hr
    | some e =>
      rw [hf] at hr
      obtain ⟨i, e⟩ := e
      cases i
      all_goals dsimp only at hr ⊢
      all_goals first
        | exact h _ _ _ _ _ _ hr
        | (repeat' (split at hr))
      all_goals first
        | (cases hr; done)
        | exact hr
        | exact h _ _ _ _ _ _ hr
        | exact hsw _ _ _ _ _ _ hr
        | exact hlw _ _ _ _ _ hr
        | exact hac hr
        | exact hbr _ _ _ _ _ _ _ (fun z => h _ _ _ _ _ _ z) (fun z => h _ _ _ _ _ _ z) hr
        | exact hel _ _ _ _ _ _ (fun z => h _ _ _ _ _ _ z) hr
        | exact hfd _ _ _ _ _ _ (fun fk z => h _ _ _ _ _ _ z) hr
        | exact hgd _ _ _ (fun z => hinv _ _ _ z) hr
        | exact hel _ _ _ _ _ _ (fun z => hgp _ _ _ (fun z => h _ _ _ _ _ _ z) z) hr
        | (refine hfd _ _ _ _ _ _ (fun fk z => ?_) hr; split at z <;> first | exact hgp _ _ _ (fun z => h _ _ _ _ _ _ z) z | exact h _ _ _ _ _ _ z | (cases z; done))
        | (simp only [*, if_true, if_false, reduceIte] at hr ⊢ <;> first | exact hr | exact h _ _ _ _ _ _ hr | exact hgd _ _ _ (fun z => hinv _ _ _ z) hr)

theorem ra_mono1 : ∀ (n : Nat) (κ : ra_K) (pc : Nat) (lo : ra_L) (st : List Value) (σ : ra_S) (r : ra_R), ra_rn n κ pc lo st σ = some r → ra_rn (n + 1) κ pc lo st σ = some r := by
  intro n
  induction n with
  | zero => intro κ pc lo st σ r h; cases h
  | succ n ih =>
    intro κ pc lo st σ r h
    exact ra_step_mono (f := ra_rn n) (g := ra_rn (n + 1)) ih κ pc lo st σ r h
theorem ra_mono (k n : Nat) {κ : ra_K} {pc : Nat} {lo : ra_L} {st : List Value} {σ : ra_S} {r : ra_R} (h : ra_rn n κ pc lo st σ = some r) : ra_rn (n + k) κ pc lo st σ = some r := by
  induction k with
  | zero => exact h
  | succ k ih => exact ra_mono1 _ _ _ _ _ _ _ ih
/-- what a family of answers comes to -/
def ra_Lm {α : Type} (f : Nat → Option α) (A : Option α) : Prop := (∀ r, A = some r → ∃ N, ∀ n, N ≤ n → f n = some r) ∧ ∀ n r, f n = some r → A = some r
/-- the answer of a run, if it ends -/
noncomputable def ra_D (κ : ra_K) (pc : Nat) (lo : ra_L) (st : List Value) (σ : ra_S) : Option ra_R :=
  @dite _ (∃ r n, ra_rn n κ pc lo st σ = some r) (Classical.propDecidable _) (fun h => some (Classical.choose h)) (fun _ => none)
theorem ra_D_some {κ : ra_K} {pc : Nat} {lo : ra_L} {st : List Value} {σ : ra_S} {r : ra_R} : ra_D κ pc lo st σ = some r ↔ ∃ n, ra_rn n κ pc lo st σ = some r := by
  unfold ra_D
  by_cases h : ∃ r n, ra_rn n κ pc lo st σ = some r
  · rw [dif_pos h]
    have hc := Classical.choose_spec h
    constructor
    · intro he
      rw [← Option.some.inj he]
      exact hc
    · rintro ⟨n, hn⟩
      obtain ⟨k, hk⟩ := hc
      have h1 := ra_mono k n hn
      have h2 := ra_mono n k hk
      rw [Nat.add_comm k n] at h2
      rw [h1] at h2
      exact h2.symm
  · rw [dif_neg h]
    constructor
    · intro he; cases he
    · rintro ⟨n, hn⟩; exact absurd ⟨r, n, hn⟩ h
theorem ra_Lm.rn (j : Nat) (κ : ra_K) (pc : Nat) (lo : ra_L) (st : List Value) (σ : ra_S) : ra_Lm (fun n => ra_rn (n + j) κ pc lo st σ) (ra_D κ pc lo st σ) := by
  constructor
  · intro r hr
    obtain ⟨n, hn⟩ := ra_D_some.mp hr
    refine ⟨n, fun k hk => ?_⟩
    obtain ⟨d, rfl⟩ := Nat.le.dest hk
    have := ra_mono (d + j) n hn
    rw [← Nat.add_assoc] at this
    exact this
  · intro n r hr
    exact ra_D_some.mpr ⟨_, hr⟩
theorem ra_Lm.const {α : Type} (A : Option α) : ra_Lm (fun _ => A) A := ⟨fun _ h => ⟨0, fun _ _ => h⟩, fun _ _ h => h⟩
theorem ra_Lm.ite {α : Type} {c : Prop} [Decidable c] {f g : Nat → Option α} {A B : Option α} (hf : ra_Lm f A) (hg : ra_Lm g B) : ra_Lm (fun n => if c then f n else g n) (if c then A else B) := by
  by_cases h : c
  · simp only [if_pos h]; exact hf
  · simp only [if_neg h]; exact hg
theorem ra_Lm.bind {α β : Type} {f : Nat → Option α} {g : Nat → α → Option β} {A : Option α} {B : α → Option β} (hf : ra_Lm f A) (hg : ∀ a, ra_Lm (fun n => g n a) (B a)) : ra_Lm (fun n => (f n).bind (g n)) (A.bind B) := by
  constructor
  · intro r hr
    cases A with
    | none => cases hr
    | some a =>
      obtain ⟨N, hN⟩ := hf.1 a rfl
      obtain ⟨M, hM⟩ := (hg a).1 r hr
      refine ⟨max N M, fun n hn => ?_⟩
      show (f n).bind (g n) = some r
      rw [hN n (Nat.le_trans (Nat.le_max_left _ _) hn)]
      exact hM n (Nat.le_trans (Nat.le_max_right _ _) hn)
  · intro n r hr
    have hr : (f n).bind (g n) = some r := hr
    cases hfn : f n with
    | none => rw [hfn] at hr; cases hr
    | some a =>
      rw [hfn] at hr
      rw [hf.2 n a hfn]
      exact (hg a).2 n r hr
theorem ra_Lm.ki {f : Nat → Option ra_R} {g : Nat → Int32 → ra_S → Option ra_R} {A : Option ra_R} {B : Int32 → ra_S → Option ra_R} (hf : ra_Lm f A) (hg : ∀ x s, ra_Lm (fun n => g n x s) (B x s)) : ra_Lm (fun n => (f n).bind (ra_ki fun x s => g n x s)) (A.bind (ra_ki fun x s => B x s)) := by
  refine ra_Lm.bind hf (fun a => ?_)
  unfold ra_ki
  split
  · exact hg _ _
  · exact ra_Lm.const _
theorem ra_Lm.kl {f : Nat → Option ra_R} {g : Nat → Int64 → ra_S → Option ra_R} {A : Option ra_R} {B : Int64 → ra_S → Option ra_R} (hf : ra_Lm f A) (hg : ∀ x s, ra_Lm (fun n => g n x s) (B x s)) : ra_Lm (fun n => (f n).bind (ra_kl fun x s => g n x s)) (A.bind (ra_kl fun x s => B x s)) := by
  refine ra_Lm.bind hf (fun a => ?_)
  unfold ra_kl
  split
  · exact hg _ _
  · exact ra_Lm.const _
theorem ra_Lm.kv {f : Nat → Option ra_R} {g : Nat → ra_S → Option ra_R} {A : Option ra_R} {B : ra_S → Option ra_R} (hf : ra_Lm f A) (hg : ∀ s, ra_Lm (fun n => g n s) (B s)) : ra_Lm (fun n => (f n).bind (ra_kv fun s => g n s)) (A.bind (ra_kv fun s => B s)) := by
  refine ra_Lm.bind hf (fun a => ?_)
  unfold ra_kv
  split
  · exact hg _
  · exact ra_Lm.const _
theorem ra_Lm.out (k : Nat) {κ : ra_K} {pc : Nat} {lo : ra_L} {st : List Value} {σ : ra_S} {f : Nat → Option ra_R} {A : Option ra_R} (hf : ra_Lm f A) (h : ∀ n, ra_rn (n + k) κ pc lo st σ = f n) : ra_D κ pc lo st σ = A := by
  cases hA : A with
  | some r =>
    obtain ⟨N, hN⟩ := hf.1 r hA
    exact ra_D_some.mpr ⟨N + k, by rw [h N]; exact hN N (Nat.le_refl N)⟩
  | none =>
    cases hD : ra_D κ pc lo st σ with
    | none => rfl
    | some r =>
      obtain ⟨n, hn⟩ := ra_D_some.mp hD
      have := ra_mono k n hn
      rw [h n] at this
      rw [hf.2 n r this] at hA
      cases hA
/-- a call of method ν -/
noncomputable def ra_Cz (lay : Nat → Option ra_H) (ν : Nat) (as : List Value) (σ : ra_S) : Option ra_R := ra_D (lay, none, 99999, ra_mt ν) 0 (ra_lo0 (ra_mt ν).2.2.2.1.1 as) [] σ
noncomputable abbrev ra_C (ν : Nat) (as : List Value) (σ : ra_S) : Option ra_R := ra_Cz ra_lay ν as σ
theorem ra_ite {α : Type} {c : Prop} [Decidable c] {A A' B B' : α} (h1 : A = A') (h2 : B = B') : (if c then A else B) = (if c then A' else B') := by rw [h1, h2]
theorem ra_bki {A : Option ra_R} {k k' : Int32 → ra_S → Option ra_R} (h : ∀ x s, k x s = k' x s) : A.bind (ra_ki k) = A.bind (ra_ki k') := by rw [show k = k' from funext fun x => funext fun s => h x s]
theorem ra_bkl {A : Option ra_R} {k k' : Int64 → ra_S → Option ra_R} (h : ∀ x s, k x s = k' x s) : A.bind (ra_kl k) = A.bind (ra_kl k') := by rw [show k = k' from funext fun x => funext fun s => h x s]
theorem ra_bkv {A : Option ra_R} {k k' : ra_S → Option ra_R} (h : ∀ s, k s = k' s) : A.bind (ra_kv k) = A.bind (ra_kv k') := by rw [show k = k' from funext h]
/-- k steps, then f -/
def ra_itr : Nat → ra_F → ra_F
  | 0, f => f
  | k + 1, f => ra_step (ra_itr k f)
theorem ra_itr_rn (n : Nat) : ∀ k, ra_rn (n + k) = ra_itr k (ra_rn n)
  | 0 => rfl
  | k + 1 => by
    show (fun κ pc lo st σ => ra_step (ra_rn (n + k)) κ pc lo st σ) = ra_step (ra_itr k (ra_rn n))
    rw [ra_itr_rn n k]
theorem ra_Lm.r0 (κ : ra_K) (pc : Nat) (lo : ra_L) (st : List Value) (σ : ra_S) : ra_Lm (fun n => ra_rn n κ pc lo st σ) (ra_D κ pc lo st σ) := ra_Lm.rn 0 κ pc lo st σ
theorem ra_Lm.c0 (lay : Nat → Option ra_H) (ν : Nat) (as : List Value) (σ : ra_S) : ra_Lm (fun n => ra_rn n (lay, none, 99999, ra_mt ν) 0 (ra_lo0 (ra_mt ν).2.2.2.1.1 as) [] σ) (ra_Cz lay ν as σ) := ra_Lm.rn 0 _ _ _ _ _
theorem ra_mic (K : Nat) {κ : ra_K} {pc : Nat} {lo : ra_L} {st : List Value} {σ : ra_S} {A : Option ra_R} (T : ra_F → Option ra_R) (h : ∀ f, ra_itr K f κ pc lo st σ = T f) (hL : ra_Lm (fun n => T (ra_rn n)) A) : ra_D κ pc lo st σ = A :=
  ra_Lm.out K hL (fun n => by rw [ra_itr_rn]; exact h (ra_rn n))
theorem ra_micC (K : Nat) {lay : Nat → Option ra_H} {ν : Nat} {as : List Value} {σ : ra_S} {A : Option ra_R} (T : ra_F → Option ra_R) (h : ∀ f, ra_itr K f (lay, none, 99999, ra_mt ν) 0 (ra_lo0 (ra_mt ν).2.2.2.1.1 as) [] σ = T f) (hL : ra_Lm (fun n => T (ra_rn n)) A) : ra_Cz lay ν as σ = A := ra_mic K T h hL
