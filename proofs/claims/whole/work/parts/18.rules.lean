/-! rules: an instruction, an equation -/
noncomputable def zY {β : Type} (d : Nat) (k : zM) (X : zX) (stp : Nat → Bool) (G : zQ → Option β) (pc : Nat) (L : zL) (S : List zV) (σ : zS) : Option β := (zD d k X stp pc L S σ).bind G
def zG0 (q : zQ) : Option (Option zV × zS) := q.1.map fun rv => (rv, q.2.2.2.2)
noncomputable abbrev zq (d : Nat) (k : zM) (pc : Nat) (L : zL) (S : List zV) (σ : zS) : Option (Option zV × zS) := zY d k none zno zG0 pc L S σ
theorem zc_zq {d : Nat} {k : zM} {vs : List zV} {σ : zS} {L : zL} (h : zpad k.2.2.1 (zent vs) = L) : zc d k vs σ = zq d k 0 L [] σ := by subst h; rfl
theorem zif {α : Type} {c : Prop} {i : Decidable c} {A A' B B' : α} (h1 : A = A') (h2 : B = B') : (@ite α c i A B) = (@ite α c i A' B') := by rw [h1, h2]
def zkeys (pc : Nat) (base : Int) (l : List Int) : Option (List (Int × Nat)) := match l with
  | [] => some []
  | o :: r => match zjmp pc o, zkeys pc (base + 1) r with
    | some t, some q => some ((base, t) :: q)
    | _, _ => none
def zkeysL (pc : Nat) (l : List (Int × Int)) : Option (List (Int × Nat)) := match l with
  | [] => some []
  | o :: r => match zjmp pc o.2, zkeysL pc r with
    | some t, some q => some ((o.1, t) :: q)
    | _, _ => none
def zsr {α : Type} (x : Int) (ts : List (Int × Nat)) (d : Nat) (F : Nat → α) : α := match ts with
  | [] => F d
  | t :: r => if x = t.1 then F t.2 else zsr x r d F
def zsrL {α : Type} (x : Int) (ts : List (Int × Nat)) (d : Nat) (F : Nat → α) : α := match ts with
  | [] => F d
  | t :: r => if t.1 = x then F t.2 else zsrL x r d F
section ZYS
variable {β : Type} {d : Nat} {k : zM} {X : zX} {stp : Nat → Bool} {G : zQ → Option β} {pc : Nat} {L L2 : zL} {S : List zV} {σ : zS} {i : Instr} {len : Nat}
theorem zY_at (h : L = L2) : zY d k X stp G pc L S σ = zY d k X stp G pc L2 S σ := by rw [h]
theorem zY_step (hs : stp pc = false) (hd : decode k.2.1 pc = .ok (i, len)) (hk : zkind i len = (0, 0)) {pc' : Nat} {L' : zL} {S' : List zV} {σ' : zS} (hx : zex i k X pc L S σ = some (pc', L', S', σ')) (hc : zclr k pc' L' = L2) : zY d k X stp G pc L S σ = zY d k X stp G pc' L2 S' σ' := by
  unfold zY; rw [zD_step hd hs hk hx hc]
theorem zY_stop (hs : stp pc = true) : zY d k X stp G pc L S σ = G (none, pc, L, S, σ) := by unfold zY; rw [zD_stop hs]; rfl
theorem zY_ret (hs : stp pc = false) (hd : decode k.2.1 pc = .ok (i, len)) (hk : zkind i len = (1, 0)) {rv : Option zV} (hr : zret k.2.2.2.1 i S = some rv) : zY d k X stp G pc L S σ = G (some rv, pc, L, S, σ) := by
  unfold zY; rw [zD_ret hd hs hk hr]; rfl
theorem zq_ret (hd : decode k.2.1 pc = .ok (i, len)) (hk : zkind i len = (1, 0)) {rv : Option zV} (hr : zret k.2.2.2.1 i S = some rv) : zq d k pc L S σ = some (rv, σ) := by
  unfold zq; rw [zY_ret rfl hd hk hr]; rfl
theorem zD_none (hs : stp pc = false) (hd : decode k.2.1 pc = .ok (i, len)) (hk : zkind i len = (1, 0)) (hr : zret k.2.2.2.1 i S = none) : zD d k X stp pc L S σ = none := by
  cases h : zD d k X stp pc L S σ with
  | none => rfl
  | some q =>
    obtain ⟨f, hf⟩ := zD_some.mp h
    cases f with
    | zero => simp [zrun] at hf
    | succ f =>
      rw [zrun, if_neg (by rw [hs]; exact Bool.false_ne_true), hd] at hf
      dsimp only at hf
      rw [if_neg (by rw [hk]; decide), if_pos (by rw [hk]), hr] at hf
      cases hf
theorem zq_retb (hd : decode k.2.1 pc = .ok (.ireturn, 1)) (hr : k.2.2.2.1 = some .boolean) {a : Int} : zq d k pc L [zI a] σ = if nrm a = 0 ∨ nrm a = 1 then some (some (zI a), σ) else none := by
  split
  · rename_i h
    exact zq_ret hd rfl (by rw [hr]; exact if_pos h)
  · rename_i h
    unfold zq zY
    rw [zD_none rfl hd rfl (by rw [hr]; exact if_neg h)]
    rfl
theorem zD_stuck (hs : stp pc = false) (hd : decode k.2.1 pc = .ok (i, len)) (hk : zkind i len = (0, 0)) (hx : zex i k X pc L S σ = none) : zD d k X stp pc L S σ = none := by
  cases h : zD d k X stp pc L S σ with
  | none => rfl
  | some q =>
    obtain ⟨f, hf⟩ := zD_some.mp h
    cases f with
    | zero => simp [zrun] at hf
    | succ f =>
      rw [zrun, if_neg (by rw [hs]; exact Bool.false_ne_true), hd] at hf
      dsimp only at hf
      rw [if_pos (by rw [hk]), hx] at hf
      cases hf
theorem zY_if (hs : stp pc = false) (hd : decode k.2.1 pc = .ok (i, len)) (hk : zkind i len = (0, 0)) {c : Prop} {ic : Decidable c} {pc1 pc2 : Nat} {L' L1 : zL} {S' : List zV} {σ' : zS}
    (h1 : c → zex i k X pc L S σ = some (pc1, L', S', σ')) (h2 : ¬ c → zex i k X pc L S σ = some (pc2, L', S', σ')) (hc1 : zclr k pc1 L' = L1) (hc2 : zclr k pc2 L' = L2) :
    zY d k X stp G pc L S σ = if c then zY d k X stp G pc1 L1 S' σ' else zY d k X stp G pc2 L2 S' σ' := by
  split
  · rename_i h; exact zY_step hs hd hk (h1 h) hc1
  · rename_i h; exact zY_step hs hd hk (h2 h) hc2
theorem zY_gd (hs : stp pc = false) (hd : decode k.2.1 pc = .ok (i, len)) (hk : zkind i len = (0, 0)) {c : Prop} {ic : Decidable c} {pc' : Nat} {L' : zL} {S' : List zV} {σ' : zS}
    (h1 : c → zex i k X pc L S σ = some (pc', L', S', σ')) (h2 : ¬ c → zex i k X pc L S σ = none) (hc : zclr k pc' L' = L2) :
    zY d k X stp G pc L S σ = if c then zY d k X stp G pc' L2 S' σ' else none := by
  split
  · rename_i h; exact zY_step hs hd hk (h1 h) hc
  · rename_i h; unfold zY; rw [zD_stuck hs hd hk (h2 h)]; rfl
theorem zcn {k : zM} {pc : Nat} {L : zL} (h : k.2.2.2.2.2.lookup pc = none) : zclr k pc L = L := by unfold zclr; rw [h]
theorem zbr_t {pc t : Nat} {off : Int} (h : zjmp pc off = some t) : zbr pc off true = some t := by unfold zbr; rw [h]; rfl
theorem zbr_f {pc t : Nat} {off : Int} (h : zjmp pc off = some t) : zbr pc off false = some (pc + 3) := by unfold zbr; rw [h]; rfl

theorem zY_if_eq (hs : stp pc = false) {off : Int} (hd : decode k.2.1 pc = .ok (.ifCond .eq off, 3)) {t : Nat} (ht : zjmp pc off = some t) {a a2 : Int} (ha : nrm a = a2) {L1 : zL} (hc1 : zclr k t L = L1) (hc2 : zclr k (pc + 3) L = L2) :
    zY d k X stp G pc L (zI a :: S) σ = if a2 = 0 then zY d k X stp G t L1 S σ else zY d k X stp G (pc + 3) L2 S σ := by
  subst ha
  refine zY_if hs hd rfl (fun h => ?_) (fun h => ?_) hc1 hc2
  · show (zbr pc off (zcmp .eq (nrm a) 0)).map _ = _
    rw [show zcmp .eq (nrm a) 0 = true from decide_eq_true h, zbr_t ht]; rfl
  · show (zbr pc off (zcmp .eq (nrm a) 0)).map _ = _
    rw [show zcmp .eq (nrm a) 0 = false from decide_eq_false h, zbr_f ht]; rfl
theorem zY_ic_eq (hs : stp pc = false) {off : Int} (hd : decode k.2.1 pc = .ok (.if_icmp .eq off, 3)) {t : Nat} (ht : zjmp pc off = some t) {a b a2 b2 : Int} (ha : nrm a = a2) (hb : nrm b = b2) {L1 : zL} (hc1 : zclr k t L = L1) (hc2 : zclr k (pc + 3) L = L2) :
    zY d k X stp G pc L (zI b :: zI a :: S) σ = if a2 = b2 then zY d k X stp G t L1 S σ else zY d k X stp G (pc + 3) L2 S σ := by
  subst ha; subst hb
  refine zY_if hs hd rfl (fun h => ?_) (fun h => ?_) hc1 hc2
  · show (zbr pc off (zcmp .eq (nrm a) (nrm b))).map _ = _
    rw [show zcmp .eq (nrm a) (nrm b) = true from decide_eq_true h, zbr_t ht]; rfl
  · show (zbr pc off (zcmp .eq (nrm a) (nrm b))).map _ = _
    rw [show zcmp .eq (nrm a) (nrm b) = false from decide_eq_false h, zbr_f ht]; rfl
theorem zY_if_ne (hs : stp pc = false) {off : Int} (hd : decode k.2.1 pc = .ok (.ifCond .ne off, 3)) {t : Nat} (ht : zjmp pc off = some t) {a a2 : Int} (ha : nrm a = a2) {L1 : zL} (hc1 : zclr k t L = L1) (hc2 : zclr k (pc + 3) L = L2) :
    zY d k X stp G pc L (zI a :: S) σ = if ¬ a2 = 0 then zY d k X stp G t L1 S σ else zY d k X stp G (pc + 3) L2 S σ := by
  subst ha
  refine zY_if hs hd rfl (fun h => ?_) (fun h => ?_) hc1 hc2
  · show (zbr pc off (zcmp .ne (nrm a) 0)).map _ = _
    rw [show zcmp .ne (nrm a) 0 = true from decide_eq_true h, zbr_t ht]; rfl
  · show (zbr pc off (zcmp .ne (nrm a) 0)).map _ = _
    rw [show zcmp .ne (nrm a) 0 = false from decide_eq_false h, zbr_f ht]; rfl
theorem zY_ic_ne (hs : stp pc = false) {off : Int} (hd : decode k.2.1 pc = .ok (.if_icmp .ne off, 3)) {t : Nat} (ht : zjmp pc off = some t) {a b a2 b2 : Int} (ha : nrm a = a2) (hb : nrm b = b2) {L1 : zL} (hc1 : zclr k t L = L1) (hc2 : zclr k (pc + 3) L = L2) :
    zY d k X stp G pc L (zI b :: zI a :: S) σ = if ¬ a2 = b2 then zY d k X stp G t L1 S σ else zY d k X stp G (pc + 3) L2 S σ := by
  subst ha; subst hb
  refine zY_if hs hd rfl (fun h => ?_) (fun h => ?_) hc1 hc2
  · show (zbr pc off (zcmp .ne (nrm a) (nrm b))).map _ = _
    rw [show zcmp .ne (nrm a) (nrm b) = true from decide_eq_true h, zbr_t ht]; rfl
  · show (zbr pc off (zcmp .ne (nrm a) (nrm b))).map _ = _
    rw [show zcmp .ne (nrm a) (nrm b) = false from decide_eq_false h, zbr_f ht]; rfl
theorem zY_if_lt (hs : stp pc = false) {off : Int} (hd : decode k.2.1 pc = .ok (.ifCond .lt off, 3)) {t : Nat} (ht : zjmp pc off = some t) {a a2 : Int} (ha : nrm a = a2) {L1 : zL} (hc1 : zclr k t L = L1) (hc2 : zclr k (pc + 3) L = L2) :
    zY d k X stp G pc L (zI a :: S) σ = if a2 < 0 then zY d k X stp G t L1 S σ else zY d k X stp G (pc + 3) L2 S σ := by
  subst ha
  refine zY_if hs hd rfl (fun h => ?_) (fun h => ?_) hc1 hc2
  · show (zbr pc off (zcmp .lt (nrm a) 0)).map _ = _
    rw [show zcmp .lt (nrm a) 0 = true from decide_eq_true h, zbr_t ht]; rfl
  · show (zbr pc off (zcmp .lt (nrm a) 0)).map _ = _
    rw [show zcmp .lt (nrm a) 0 = false from decide_eq_false h, zbr_f ht]; rfl
theorem zY_ic_lt (hs : stp pc = false) {off : Int} (hd : decode k.2.1 pc = .ok (.if_icmp .lt off, 3)) {t : Nat} (ht : zjmp pc off = some t) {a b a2 b2 : Int} (ha : nrm a = a2) (hb : nrm b = b2) {L1 : zL} (hc1 : zclr k t L = L1) (hc2 : zclr k (pc + 3) L = L2) :
    zY d k X stp G pc L (zI b :: zI a :: S) σ = if a2 < b2 then zY d k X stp G t L1 S σ else zY d k X stp G (pc + 3) L2 S σ := by
  subst ha; subst hb
  refine zY_if hs hd rfl (fun h => ?_) (fun h => ?_) hc1 hc2
  · show (zbr pc off (zcmp .lt (nrm a) (nrm b))).map _ = _
    rw [show zcmp .lt (nrm a) (nrm b) = true from decide_eq_true h, zbr_t ht]; rfl
  · show (zbr pc off (zcmp .lt (nrm a) (nrm b))).map _ = _
    rw [show zcmp .lt (nrm a) (nrm b) = false from decide_eq_false h, zbr_f ht]; rfl
theorem zY_if_ge (hs : stp pc = false) {off : Int} (hd : decode k.2.1 pc = .ok (.ifCond .ge off, 3)) {t : Nat} (ht : zjmp pc off = some t) {a a2 : Int} (ha : nrm a = a2) {L1 : zL} (hc1 : zclr k t L = L1) (hc2 : zclr k (pc + 3) L = L2) :
    zY d k X stp G pc L (zI a :: S) σ = if 0 ≤ a2 then zY d k X stp G t L1 S σ else zY d k X stp G (pc + 3) L2 S σ := by
  subst ha
  refine zY_if hs hd rfl (fun h => ?_) (fun h => ?_) hc1 hc2
  · show (zbr pc off (zcmp .ge (nrm a) 0)).map _ = _
    rw [show zcmp .ge (nrm a) 0 = true from decide_eq_true h, zbr_t ht]; rfl
  · show (zbr pc off (zcmp .ge (nrm a) 0)).map _ = _
    rw [show zcmp .ge (nrm a) 0 = false from decide_eq_false h, zbr_f ht]; rfl
theorem zY_ic_ge (hs : stp pc = false) {off : Int} (hd : decode k.2.1 pc = .ok (.if_icmp .ge off, 3)) {t : Nat} (ht : zjmp pc off = some t) {a b a2 b2 : Int} (ha : nrm a = a2) (hb : nrm b = b2) {L1 : zL} (hc1 : zclr k t L = L1) (hc2 : zclr k (pc + 3) L = L2) :
    zY d k X stp G pc L (zI b :: zI a :: S) σ = if b2 ≤ a2 then zY d k X stp G t L1 S σ else zY d k X stp G (pc + 3) L2 S σ := by
  subst ha; subst hb
  refine zY_if hs hd rfl (fun h => ?_) (fun h => ?_) hc1 hc2
  · show (zbr pc off (zcmp .ge (nrm a) (nrm b))).map _ = _
    rw [show zcmp .ge (nrm a) (nrm b) = true from decide_eq_true h, zbr_t ht]; rfl
  · show (zbr pc off (zcmp .ge (nrm a) (nrm b))).map _ = _
    rw [show zcmp .ge (nrm a) (nrm b) = false from decide_eq_false h, zbr_f ht]; rfl
theorem zY_if_gt (hs : stp pc = false) {off : Int} (hd : decode k.2.1 pc = .ok (.ifCond .gt off, 3)) {t : Nat} (ht : zjmp pc off = some t) {a a2 : Int} (ha : nrm a = a2) {L1 : zL} (hc1 : zclr k t L = L1) (hc2 : zclr k (pc + 3) L = L2) :
    zY d k X stp G pc L (zI a :: S) σ = if 0 < a2 then zY d k X stp G t L1 S σ else zY d k X stp G (pc + 3) L2 S σ := by
  subst ha
  refine zY_if hs hd rfl (fun h => ?_) (fun h => ?_) hc1 hc2
  · show (zbr pc off (zcmp .gt (nrm a) 0)).map _ = _
    rw [show zcmp .gt (nrm a) 0 = true from decide_eq_true h, zbr_t ht]; rfl
  · show (zbr pc off (zcmp .gt (nrm a) 0)).map _ = _
    rw [show zcmp .gt (nrm a) 0 = false from decide_eq_false h, zbr_f ht]; rfl
theorem zY_ic_gt (hs : stp pc = false) {off : Int} (hd : decode k.2.1 pc = .ok (.if_icmp .gt off, 3)) {t : Nat} (ht : zjmp pc off = some t) {a b a2 b2 : Int} (ha : nrm a = a2) (hb : nrm b = b2) {L1 : zL} (hc1 : zclr k t L = L1) (hc2 : zclr k (pc + 3) L = L2) :
    zY d k X stp G pc L (zI b :: zI a :: S) σ = if b2 < a2 then zY d k X stp G t L1 S σ else zY d k X stp G (pc + 3) L2 S σ := by
  subst ha; subst hb
  refine zY_if hs hd rfl (fun h => ?_) (fun h => ?_) hc1 hc2
  · show (zbr pc off (zcmp .gt (nrm a) (nrm b))).map _ = _
    rw [show zcmp .gt (nrm a) (nrm b) = true from decide_eq_true h, zbr_t ht]; rfl
  · show (zbr pc off (zcmp .gt (nrm a) (nrm b))).map _ = _
    rw [show zcmp .gt (nrm a) (nrm b) = false from decide_eq_false h, zbr_f ht]; rfl
theorem zY_if_le (hs : stp pc = false) {off : Int} (hd : decode k.2.1 pc = .ok (.ifCond .le off, 3)) {t : Nat} (ht : zjmp pc off = some t) {a a2 : Int} (ha : nrm a = a2) {L1 : zL} (hc1 : zclr k t L = L1) (hc2 : zclr k (pc + 3) L = L2) :
    zY d k X stp G pc L (zI a :: S) σ = if a2 ≤ 0 then zY d k X stp G t L1 S σ else zY d k X stp G (pc + 3) L2 S σ := by
  subst ha
  refine zY_if hs hd rfl (fun h => ?_) (fun h => ?_) hc1 hc2
  · show (zbr pc off (zcmp .le (nrm a) 0)).map _ = _
    rw [show zcmp .le (nrm a) 0 = true from decide_eq_true h, zbr_t ht]; rfl
  · show (zbr pc off (zcmp .le (nrm a) 0)).map _ = _
    rw [show zcmp .le (nrm a) 0 = false from decide_eq_false h, zbr_f ht]; rfl
theorem zY_ic_le (hs : stp pc = false) {off : Int} (hd : decode k.2.1 pc = .ok (.if_icmp .le off, 3)) {t : Nat} (ht : zjmp pc off = some t) {a b a2 b2 : Int} (ha : nrm a = a2) (hb : nrm b = b2) {L1 : zL} (hc1 : zclr k t L = L1) (hc2 : zclr k (pc + 3) L = L2) :
    zY d k X stp G pc L (zI b :: zI a :: S) σ = if a2 ≤ b2 then zY d k X stp G t L1 S σ else zY d k X stp G (pc + 3) L2 S σ := by
  subst ha; subst hb
  refine zY_if hs hd rfl (fun h => ?_) (fun h => ?_) hc1 hc2
  · show (zbr pc off (zcmp .le (nrm a) (nrm b))).map _ = _
    rw [show zcmp .le (nrm a) (nrm b) = true from decide_eq_true h, zbr_t ht]; rfl
  · show (zbr pc off (zcmp .le (nrm a) (nrm b))).map _ = _
    rw [show zcmp .le (nrm a) (nrm b) = false from decide_eq_false h, zbr_f ht]; rfl
theorem zsw_keys {α : Type} (pc : Nat) (x : Int) (F : Nat → α) {dd : Int} {dt : Nat} (hdt : zjmp pc dd = some dt) : ∀ (l : List Int) (base : Int) (ts : List (Int × Nat)), zkeys pc base l = some ts → ∃ t, zjmp pc (zsw x base l dd) = some t ∧ F t = zsr x ts dt F := by
  intro l
  induction l with
  | nil => intro base ts h; cases h; exact ⟨dt, hdt, rfl⟩
  | cons o r ih =>
    intro base ts h
    unfold zkeys at h
    split at h
    · rename_i t q h1 h2
      cases h
      by_cases e : x = base
      · exact ⟨t, by unfold zsw; rw [if_pos e]; exact h1, by unfold zsr; rw [if_pos e]⟩
      · obtain ⟨t2, a1, a2⟩ := ih _ _ h2
        exact ⟨t2, by unfold zsw; rw [if_neg e]; exact a1, by unfold zsr; rw [if_neg e]; exact a2⟩
    · cases h
theorem zlk_keys {α : Type} (pc : Nat) (x : Int) (F : Nat → α) {dd : Int} {dt : Nat} (hdt : zjmp pc dd = some dt) : ∀ (l : List (Int × Int)) (ts : List (Int × Nat)), zkeysL pc l = some ts → ∃ t, zjmp pc (Op.lookupswitch.offset l dd x) = some t ∧ F t = zsrL x ts dt F := by
  intro l
  induction l with
  | nil => intro ts h; cases h; exact ⟨dt, hdt, rfl⟩
  | cons o r ih =>
    intro ts h
    obtain ⟨o1, o2⟩ := o
    unfold zkeysL at h
    split at h
    · rename_i t q h1 h2
      cases h
      rw [Op.lookupswitch.offset_cons]
      by_cases e : o1 = x
      · exact ⟨t, by rw [if_pos e]; exact h1, by unfold zsrL; rw [if_pos e]⟩
      · obtain ⟨t2, a1, a2⟩ := ih _ h2
        exact ⟨t2, by rw [if_neg e]; exact a1, by unfold zsrL; rw [if_neg e]; exact a2⟩
    · cases h
theorem zY_tsw (hs : stp pc = false) {dd lo hi : Int} {offs : Array Int} (hd : decode k.2.1 pc = .ok (.tableswitch dd lo hi offs, len)) (hh : hi = lo + offs.size - 1) {dt : Nat} (hdt : zjmp pc dd = some dt) {ts : List (Int × Nat)} (hts : zkeys pc lo offs.toList = some ts) {a : Int} :
    zY d k X stp G pc L (zI a :: S) σ = zsr (nrm a) ts dt fun t => zY d k X stp G t (zclr k t L) S σ := by
  obtain ⟨t, h1, h2⟩ := zsw_keys pc (nrm a) (fun t => zY d k X stp G t (zclr k t L) S σ) hdt _ _ _ hts
  rw [← h2]
  refine zY_step hs hd (by unfold zkind; exact if_pos rfl) ?_ rfl
  show (if hi = lo + offs.size - 1 then (zjmp pc (zsw (nrm a) lo offs.toList dd)).map _ else none) = _
  rw [if_pos hh, h1]; rfl
theorem zY_lsw (hs : stp pc = false) {dd : Int} {ps : Array (Int × Int)} (hd : decode k.2.1 pc = .ok (.lookupswitch dd ps, len)) (hh : (ps.toList.zip (ps.toList.drop 1)).all (fun (a, next) => a.1 < next.1) = true) {dt : Nat} (hdt : zjmp pc dd = some dt) {ts : List (Int × Nat)} (hts : zkeysL pc ps.toList = some ts) {a : Int} :
    zY d k X stp G pc L (zI a :: S) σ = zsrL (nrm a) ts dt fun t => zY d k X stp G t (zclr k t L) S σ := by
  obtain ⟨t, h1, h2⟩ := zlk_keys pc (nrm a) (fun t => zY d k X stp G t (zclr k t L) S σ) hdt _ _ hts
  rw [← h2]
  refine zY_step hs hd (by unfold zkind; exact if_pos rfl) ?_ rfl
  show (if _ then (zjmp pc (Op.lookupswitch.offset ps.toList dd (nrm a))).map _ else none) = _
  rw [if_pos hh, h1]; rfl
theorem zY_getI (hs : stp pc = false) {n ci f q : Nat} (hd : decode k.2.1 pc = .ok (.getfield n, 3)) (hf : zfl k.2.2.2.2.1 n = some (ci, f)) (hq : zkd q = ci) (hr : zrf q f = none) (hc : zclr k (pc + 3) L = L2) : zY d k X stp G pc L (zR (some q) :: S) σ = zY d k X stp G (pc + 3) L2 (zI (σ q f) :: S) σ := by
  refine zY_step hs hd rfl ?_ hc
  unfold zex; dsimp only; rw [hf]; (try dsimp only); rw [if_pos hq]; unfold zgetf; rw [hr]
theorem zY_getR (hs : stp pc = false) {n ci f q t : Nat} (hd : decode k.2.1 pc = .ok (.getfield n, 3)) (hf : zfl k.2.2.2.2.1 n = some (ci, f)) (hq : zkd q = ci) (hr : zrf q f = some t) (hc : zclr k (pc + 3) L = L2) : zY d k X stp G pc L (zR (some q) :: S) σ = zY d k X stp G (pc + 3) L2 (zR (some t) :: S) σ := by
  refine zY_step hs hd rfl ?_ hc
  unfold zex; dsimp only; rw [hf]; (try dsimp only); rw [if_pos hq]; unfold zgetf; rw [hr]
theorem zY_putI (hs : stp pc = false) {n ci f q : Nat} {v : Int} (hd : decode k.2.1 pc = .ok (.putfield n, 3)) (hf : zfl k.2.2.2.2.1 n = some (ci, f)) (hq : zkd q = ci) (hr : zrf q f = none) (hb : zbo ci f = true → nrm v = 0 ∨ nrm v = 1) (hc : zclr k (pc + 3) L = L2) : zY d k X stp G pc L (zI v :: zR (some q) :: S) σ = zY d k X stp G (pc + 3) L2 S (zup σ q f v) := by
  refine zY_step hs hd rfl ?_ hc
  unfold zex; dsimp only; rw [hf]; (try dsimp only); rw [if_pos ⟨hq, hr, hb⟩]
theorem zkd52 {q : Nat} (h : zkd q = 4 ∨ zkd q = 5 ∨ zkd q = 6) : decide (q = 52) = false := by
  apply decide_eq_false
  rintro rfl
  rcases h with h | h | h <;> exact absurd h (by decide)
theorem zY_iald (hs : stp pc = false) {q n : Nat} {a : Int} (hd : decode k.2.1 pc = .ok (.iaload, 1)) (hq : zkd q = 4) (hn : zln q = n) (hc : zclr k (pc + 1) L = L2) : zY d k X stp G pc L (zI a :: zR (some q) :: S) σ = if zix a n then zY d k X stp G (pc + 1) L2 (zI (σ q (nrm a).toNat) :: S) σ else none := by
  subst hn
  refine zY_gd hs hd rfl (fun h => ?_) (fun h => ?_) hc <;> (unfold zex; dsimp only; rw [zkd52 (Or.inl hq)]; dsimp only)
  · rw [if_pos ⟨hq, h⟩]
  · rw [if_neg (fun e => h e.2)]
theorem zY_ialdc (hs : stp pc = false) {q n : Nat} {a : Int} {j : Nat} (hd : decode k.2.1 pc = .ok (.iaload, 1)) (hq : zkd q = 4) (hn : zln q = n) (hj : (nrm a).toNat = j) (hz : zix a n) (hc : zclr k (pc + 1) L = L2) : zY d k X stp G pc L (zI a :: zR (some q) :: S) σ = zY d k X stp G (pc + 1) L2 (zI (σ q j) :: S) σ := by
  rw [zY_iald hs hd hq hn hc, if_pos hz, hj]
theorem zY_lald (hs : stp pc = false) {q n : Nat} {a : Int} (hd : decode k.2.1 pc = .ok (.laload, 1)) (hq : zkd q = 5) (hn : zln q = n) (hc : zclr k (pc + 1) L = L2) : zY d k X stp G pc L (zI a :: zR (some q) :: S) σ = if zix a n then zY d k X stp G (pc + 1) L2 (zJ (σ q (nrm a).toNat) :: S) σ else none := by
  subst hn
  refine zY_gd hs hd rfl (fun h => ?_) (fun h => ?_) hc <;> (unfold zex; dsimp only)
  · rw [if_pos ⟨hq, h⟩]
  · rw [if_neg (fun e => h e.2)]
theorem zY_aald (hs : stp pc = false) {q n : Nat} {a : Int} (hd : decode k.2.1 pc = .ok (.aaload, 1)) (hq : zkd q = 6) (hn : zln q = n) (hc : zclr k (pc + 1) L = L2) : zY d k X stp G pc L (zI a :: zR (some q) :: S) σ = if zix a n then zY d k X stp G (pc + 1) L2 (zR (zrf q (nrm a).toNat) :: S) σ else none := by
  subst hn
  refine zY_gd hs hd rfl (fun h => ?_) (fun h => ?_) hc <;> (unfold zex; dsimp only)
  · rw [if_pos ⟨hq, h⟩]
  · rw [if_neg (fun e => h e.2)]
theorem zY_sald (hs : stp pc = false) {n : Nat} {xs : Nat → Int} {a : Int} (hd : decode k.2.1 pc = .ok (.iaload, 1)) (hX : X = some (n, xs)) (hc : zclr k (pc + 1) L = L2) : zY d k X stp G pc L (zI a :: zR (some 52) :: S) σ = if zix a n then zY d k X stp G (pc + 1) L2 (zI (xs (nrm a).toNat) :: S) σ else none := by
  subst hX
  refine zY_gd hs hd rfl (fun h => ?_) (fun h => ?_) hc <;> (unfold zex; dsimp only; rw [show decide ((52 : Nat) = 52) = true from rfl]; dsimp only)
  · rw [if_pos h]
  · rw [if_neg h]
theorem zY_slen (hs : stp pc = false) {n : Nat} {xs : Nat → Int} (hd : decode k.2.1 pc = .ok (.arraylength, 1)) (hX : X = some (n, xs)) (hc : zclr k (pc + 1) L = L2) : zY d k X stp G pc L (zR (some 52) :: S) σ = zY d k X stp G (pc + 1) L2 (zI n :: S) σ := by
  subst hX
  exact zY_step hs hd rfl rfl hc
theorem zY_iast (hs : stp pc = false) {q n : Nat} {a v : Int} (hd : decode k.2.1 pc = .ok (.iastore, 1)) (hq : zkd q = 4) (hn : zln q = n) (hc : zclr k (pc + 1) L = L2) : zY d k X stp G pc L (zI v :: zI a :: zR (some q) :: S) σ = if zix a n then zY d k X stp G (pc + 1) L2 S (zup σ q (nrm a).toNat v) else none := by
  subst hn
  refine zY_gd hs hd rfl (fun h => ?_) (fun h => ?_) hc <;> (unfold zex; dsimp only)
  · rw [if_pos ⟨hq, h⟩]
  · rw [if_neg (fun e => h e.2)]
theorem zY_iastc (hs : stp pc = false) {q n : Nat} {a v : Int} {j : Nat} (hd : decode k.2.1 pc = .ok (.iastore, 1)) (hq : zkd q = 4) (hn : zln q = n) (hj : (nrm a).toNat = j) (hz : zix a n) (hc : zclr k (pc + 1) L = L2) : zY d k X stp G pc L (zI v :: zI a :: zR (some q) :: S) σ = zY d k X stp G (pc + 1) L2 S (zup σ q j v) := by
  rw [zY_iast hs hd hq hn hc, if_pos hz, hj]
theorem zY_last (hs : stp pc = false) {q n : Nat} {a v : Int} (hd : decode k.2.1 pc = .ok (.lastore, 1)) (hq : zkd q = 5) (hn : zln q = n) (hc : zclr k (pc + 1) L = L2) : zY d k X stp G pc L (zJ v :: zI a :: zR (some q) :: S) σ = if zix a n then zY d k X stp G (pc + 1) L2 S (zup σ q (nrm a).toNat v) else none := by
  subst hn
  refine zY_gd hs hd rfl (fun h => ?_) (fun h => ?_) hc <;> (unfold zex; dsimp only)
  · rw [if_pos ⟨hq, h⟩]
  · rw [if_neg (fun e => h e.2)]
theorem zY_alen (hs : stp pc = false) {q n : Nat} (hd : decode k.2.1 pc = .ok (.arraylength, 1)) (hq : zkd q = 4 ∨ zkd q = 5 ∨ zkd q = 6) (hn : zln q = n) (hc : zclr k (pc + 1) L = L2) : zY d k X stp G pc L (zR (some q) :: S) σ = zY d k X stp G (pc + 1) L2 (zI n :: S) σ := by
  subst hn
  refine zY_step hs hd rfl ?_ hc
  unfold zex; dsimp only; rw [zkd52 hq]; dsimp only; rw [if_pos hq]
theorem zY_div (hs : stp pc = false) {a b : Int} (hd : decode k.2.1 pc = .ok (.idiv, 1)) (hc : zclr k (pc + 1) L = L2) : zY d k X stp G pc L (zI b :: zI a :: S) σ = if nrm b = 0 then none else zY d k X stp G (pc + 1) L2 (zI ((nrm a).tdiv (nrm b)) :: S) σ := by
  split
  · rename_i h; unfold zY; rw [zD_stuck hs hd rfl (by unfold zex zgo zb; dsimp only; rw [if_pos h]; rfl)]; rfl
  · rename_i h; exact zY_step hs hd rfl (by unfold zex zgo zb; dsimp only; rw [if_neg h]; rfl) hc
theorem zY_divc (hs : stp pc = false) {a b c : Int} (hd : decode k.2.1 pc = .ok (.idiv, 1)) (hb : nrm b = c) (h0 : ¬ c = 0) (hc : zclr k (pc + 1) L = L2) : zY d k X stp G pc L (zI b :: zI a :: S) σ = zY d k X stp G (pc + 1) L2 (zI ((nrm a).tdiv c) :: S) σ := by
  rw [zY_div hs hd hc, hb, if_neg h0]
theorem zY_rem (hs : stp pc = false) {a b : Int} (hd : decode k.2.1 pc = .ok (.irem, 1)) (hc : zclr k (pc + 1) L = L2) : zY d k X stp G pc L (zI b :: zI a :: S) σ = if nrm b = 0 then none else zY d k X stp G (pc + 1) L2 (zI ((nrm a).tmod (nrm b)) :: S) σ := by
  split
  · rename_i h; unfold zY; rw [zD_stuck hs hd rfl (by unfold zex zgo zb; dsimp only; rw [if_pos h]; rfl)]; rfl
  · rename_i h; exact zY_step hs hd rfl (by unfold zex zgo zb; dsimp only; rw [if_neg h]; rfl) hc
theorem zY_remc (hs : stp pc = false) {a b c : Int} (hd : decode k.2.1 pc = .ok (.irem, 1)) (hb : nrm b = c) (h0 : ¬ c = 0) (hc : zclr k (pc + 1) L = L2) : zY d k X stp G pc L (zI b :: zI a :: S) σ = zY d k X stp G (pc + 1) L2 (zI ((nrm a).tmod c) :: S) σ := by
  rw [zY_rem hs hd hc, hb, if_neg h0]
theorem zY_ldiv (hs : stp pc = false) {a b : Int} (hd : decode k.2.1 pc = .ok (.ldiv, 1)) (hc : zclr k (pc + 1) L = L2) : zY d k X stp G pc L (zJ b :: zJ a :: S) σ = if nrL b = 0 then none else zY d k X stp G (pc + 1) L2 (zJ ((nrL a).tdiv (nrL b)) :: S) σ := by
  split
  · rename_i h; unfold zY; rw [zD_stuck hs hd rfl (by unfold zex zgo zbL; dsimp only; rw [if_pos h]; rfl)]; rfl
  · rename_i h; exact zY_step hs hd rfl (by unfold zex zgo zbL; dsimp only; rw [if_neg h]; rfl) hc
theorem zY_lrem (hs : stp pc = false) {a b : Int} (hd : decode k.2.1 pc = .ok (.lrem, 1)) (hc : zclr k (pc + 1) L = L2) : zY d k X stp G pc L (zJ b :: zJ a :: S) σ = if nrL b = 0 then none else zY d k X stp G (pc + 1) L2 (zJ ((nrL a).tmod (nrL b)) :: S) σ := by
  split
  · rename_i h; unfold zY; rw [zD_stuck hs hd rfl (by unfold zex zgo zbL; dsimp only; rw [if_pos h]; rfl)]; rfl
  · rename_i h; exact zY_step hs hd rfl (by unfold zex zgo zbL; dsimp only; rw [if_neg h]; rfl) hc
theorem zprepV {k' : zM} {idx n b : Nat} {as S' S0 : List zV} (hm : zml k.2.2.2.2.1 idx = some (k', 0, n)) (hS : S0 = as.reverse ++ zR (some b) :: S') (hn : as.length = n) (hb : zkd b = k'.2.2.2.2.1) (h4 : k'.2.2.2.2.1 < 4) (h8 : zwords S' ≤ 8) (he : (zent (zR (some b) :: as)).length ≤ k'.2.2.1) : zprep 2 k idx S0 = some (k', zR (some b) :: as, S') := by
  subst hS
  unfold zprep
  rw [hm]
  dsimp only
  have h1 : zpop n (as.reverse ++ zR (some b) :: S') = some (as, zR (some b) :: S') := by
    unfold zpop
    rw [if_pos (by simp; omega), List.take_append_of_le_length (by simp; omega), List.take_of_length_le (by simp; omega), List.reverse_reverse]
    congr 2
    rw [← hn]
    simp
  rw [h1]
  dsimp only
  rw [if_pos ⟨rfl, rfl⟩, if_pos ⟨hb, h4, h8, he⟩]
theorem zprepS {k' : zM} {idx n kind : Nat} {as S' S0 : List zV} (hm : zml k.2.2.2.2.1 idx = some (k', kind, n)) (hk : kind = 1 ∨ kind = 2) (hS : S0 = as.reverse ++ S') (hn : as.length = n) (h8 : zwords S' ≤ 8) (he : (zent as).length ≤ k'.2.2.1) : zprep 3 k idx S0 = some (k', as, S') := by
  subst hS
  unfold zprep
  rw [hm]
  dsimp only
  have h1 : zpop n (as.reverse ++ S') = some (as, S') := by
    unfold zpop
    rw [if_pos (by simp; omega), List.take_append_of_le_length (by simp; omega), List.take_of_length_le (by simp; omega), List.reverse_reverse]
    congr 2
    rw [← hn]
    simp
  rw [h1]
  dsimp only
  rw [if_neg (fun h => by omega), if_pos ⟨rfl, hk, h8, he⟩]
theorem zacp_none {j idx : Nat} {k' : zM} {kind n : Nat} (hm : zml k.2.2.2.2.1 idx = some (k', kind, n)) (hk : kind < 3) : zacp j k idx S σ = none := by
  unfold zacp
  rw [hm]
  split
  · rename_i h; cases h; omega
  · rename_i h; cases h; omega
  · rename_i h; cases h; omega
  · rfl
theorem zY_V (hs : stp pc = false) {idx n b : Nat} {k' : zM} {as S' S0 : List zV} (hd : decode k.2.1 pc = .ok (.invokevirtual idx, 3)) (hm : zml k.2.2.2.2.1 idx = some (k', 0, n)) (hS : S0 = as.reverse ++ zR (some b) :: S') (hn : as.length = n) (hb : zkd b = k'.2.2.2.2.1) (h4 : k'.2.2.2.2.1 < 4) (h8 : zwords S' ≤ 8) (he : (zent (zR (some b) :: as)).length ≤ k'.2.2.1) (hc : zclr k (pc + 3) L = L2) :
    zY (d + 1) k X stp G pc L S0 σ = (zc d k' (zR (some b) :: as) σ).bind fun r => zY (d + 1) k X stp G (pc + 3) L2 (r.1.toList ++ S') r.2 := by
  unfold zY
  rw [zD_call hd hs (j := 0) (idx := idx) rfl (zacp_none hm (by decide)) (zprepV hm hS hn hb h4 h8 he) hc, Option.bind_assoc]
theorem zY_S (hs : stp pc = false) {idx n kind : Nat} {k' : zM} {as S' S0 : List zV} (hd : decode k.2.1 pc = .ok (.invokestatic idx, 3)) (hm : zml k.2.2.2.2.1 idx = some (k', kind, n)) (hk : kind = 1 ∨ kind = 2) (hS : S0 = as.reverse ++ S') (hn : as.length = n) (h8 : zwords S' ≤ 8) (he : (zent as).length ≤ k'.2.2.1) (hc : zclr k (pc + 3) L = L2) :
    zY (d + 1) k X stp G pc L S0 σ = (zc d k' as σ).bind fun r => zY (d + 1) k X stp G (pc + 3) L2 (r.1.toList ++ S') r.2 := by
  unfold zY
  rw [zD_call hd hs (j := 1) (idx := idx) rfl (zacp_none hm (by omega)) (zprepS hm hk hS hn h8 he) hc, Option.bind_assoc]
theorem zY_acp (hs : stp pc = false) {idx : Nat} (hd : decode k.2.1 pc = .ok (.invokestatic idx, 3)) {r : List zV × zS} (ha : zacp 3 k idx S σ = some r) (hc : zclr k (pc + 3) L = L2) : zY (d + 1) k X stp G pc L S σ = zY (d + 1) k X stp G (pc + 3) L2 r.1 r.2 := by
  unfold zY
  rw [zD_acp hd hs (j := 1) (idx := idx) rfl ha hc]
theorem zY_max (hs : stp pc = false) {idx n : Nat} {k' : zM} {a b : Int} (hd : decode k.2.1 pc = .ok (.invokestatic idx, 3)) (hm : zml k.2.2.2.2.1 idx = some (k', 4, n)) (h8 : zwords S ≤ 8) (hc : zclr k (pc + 3) L = L2) : zY (d + 1) k X stp G pc L (zI b :: zI a :: S) σ = zY (d + 1) k X stp G (pc + 3) L2 (zI (if nrm a < nrm b then b else a) :: S) σ :=
  zY_acp hs hd (r := (zI (if nrm a < nrm b then b else a) :: S, σ)) (by unfold zacp; rw [hm]; exact if_pos ⟨rfl, h8⟩) hc
theorem zY_min (hs : stp pc = false) {idx n : Nat} {k' : zM} {a b : Int} (hd : decode k.2.1 pc = .ok (.invokestatic idx, 3)) (hm : zml k.2.2.2.2.1 idx = some (k', 5, n)) (h8 : zwords S ≤ 8) (hc : zclr k (pc + 3) L = L2) : zY (d + 1) k X stp G pc L (zI b :: zI a :: S) σ = zY (d + 1) k X stp G (pc + 3) L2 (zI (if nrm b < nrm a then b else a) :: S) σ :=
  zY_acp hs hd (r := (zI (if nrm b < nrm a then b else a) :: S, σ)) (by unfold zacp; rw [hm]; exact if_pos ⟨rfl, h8⟩) hc
theorem zY_cpy (hs : stp pc = false) {idx m a b na nb : Nat} {sp dp n : Int} {k' : zM} (hd : decode k.2.1 pc = .ok (.invokestatic idx, 3)) (hm : zml k.2.2.2.2.1 idx = some (k', 3, m)) (hka : zkd a = 4) (hkb : zkd b = 4) (hna : zln a = na) (hnb : zln b = nb) (h8 : zwords S ≤ 8) (hc : zclr k (pc + 3) L = L2)
    (hz : 0 ≤ nrm sp ∧ 0 ≤ nrm dp ∧ 0 ≤ nrm n ∧ nrm sp + nrm n ≤ na ∧ nrm dp + nrm n ≤ nb) :
    zY (d + 1) k X stp G pc L (zI n :: zI dp :: zR (some b) :: zI sp :: zR (some a) :: S) σ = zY (d + 1) k X stp G (pc + 3) L2 S (zcpy σ a (nrm sp).toNat b (nrm dp).toNat (nrm n).toNat) := by
  subst hna; subst hnb
  refine zY_acp hs hd (r := (S, zcpy σ a (nrm sp).toNat b (nrm dp).toNat (nrm n).toNat)) ?_ hc
  unfold zacp; rw [hm]; exact if_pos ⟨rfl, hka, hkb, hz.1, hz.2.1, hz.2.2.1, hz.2.2.2.1, hz.2.2.2.2, h8⟩
theorem zY_cpyc (hs : stp pc = false) {idx m a b sp dp n na nb : Nat} {k' : zM} (hd : decode k.2.1 pc = .ok (.invokestatic idx, 3)) (hm : zml k.2.2.2.2.1 idx = some (k', 3, m)) (hka : zkd a = 4) (hkb : zkd b = 4) (hna : zln a = na) (hnb : zln b = nb) (h1 : sp + n ≤ na) (h2 : dp + n ≤ nb) (h3 : na < 1000) (h4 : nb < 1000) (h8 : zwords S ≤ 8) (hc : zclr k (pc + 3) L = L2) :
    zY (d + 1) k X stp G pc L (zI n :: zI dp :: zR (some b) :: zI sp :: zR (some a) :: S) σ = zY (d + 1) k X stp G (pc + 3) L2 S (zcpy σ a sp b dp n) := by
  have e : ∀ x : Nat, x < 1000 → nrm (x : Int) = x := fun x hx => nrm_id (by omega) (by omega)
  have h := zY_cpy (X := X) (d := d) (m := m) (G := G) (S := S) (σ := σ) hs hd hm hka hkb hna hnb h8 hc (sp := sp) (dp := dp) (n := n) (by rw [e sp (by omega), e dp (by omega), e n (by omega)]; omega)
  rw [e sp (by omega), e dp (by omega), e n (by omega)] at h
  simpa using h
end ZYS
/-! kinds of places -/
def zCo (c : Nat) : Prop := c = 1 ∨ c = 6 ∨ c = 11
def zSh (c : Nat) : Prop := c = 20 ∨ c = 22 ∨ c = 24 ∨ c = 26 ∨ c = 28 ∨ c = 30 ∨ c = 32 ∨ c = 34
theorem zCo1 : zCo 1 := Or.inl rfl
theorem zCo6 : zCo 6 := Or.inr (Or.inl rfl)
theorem zCo11 : zCo 11 := Or.inr (Or.inr rfl)
theorem zCo_k {c : Nat} (h : zCo c) : zkd c = 0 := by rcases h with rfl | rfl | rfl <;> rfl
theorem zCo_r0 {c : Nat} (h : zCo c) : zrf c 0 = none := by rcases h with rfl | rfl | rfl <;> rfl
theorem zCo_r1 {c : Nat} (h : zCo c) : zrf c 1 = none := by rcases h with rfl | rfl | rfl <;> rfl
theorem zCo_r2 {c : Nat} (h : zCo c) : zrf c 2 = none := by rcases h with rfl | rfl | rfl <;> rfl
theorem zCo_r3 {c : Nat} (h : zCo c) : zrf c 3 = none := by rcases h with rfl | rfl | rfl <;> rfl
theorem zCo_r4 {c : Nat} (h : zCo c) : zrf c 4 = some (c + 1) := by rcases h with rfl | rfl | rfl <;> rfl
theorem zCo_r5 {c : Nat} (h : zCo c) : zrf c 5 = some (c + 2) := by rcases h with rfl | rfl | rfl <;> rfl
theorem zCo_r6 {c : Nat} (h : zCo c) : zrf c 6 = some (c + 3) := by rcases h with rfl | rfl | rfl <;> rfl
theorem zCo_r7 {c : Nat} (h : zCo c) : zrf c 7 = some (c + 4) := by rcases h with rfl | rfl | rfl <;> rfl
theorem zCo_a1 {c : Nat} (h : zCo c) : zkd (c + 1) = 4 := by rcases h with rfl | rfl | rfl <;> rfl
theorem zCo_a2 {c : Nat} (h : zCo c) : zkd (c + 2) = 4 := by rcases h with rfl | rfl | rfl <;> rfl
theorem zCo_a3 {c : Nat} (h : zCo c) : zkd (c + 3) = 4 := by rcases h with rfl | rfl | rfl <;> rfl
theorem zCo_a4 {c : Nat} (h : zCo c) : zkd (c + 4) = 4 := by rcases h with rfl | rfl | rfl <;> rfl
theorem zCo_n1 {c : Nat} (h : zCo c) : zln (c + 1) = 8 := by rcases h with rfl | rfl | rfl <;> rfl
theorem zCo_n2 {c : Nat} (h : zCo c) : zln (c + 2) = 8 := by rcases h with rfl | rfl | rfl <;> rfl
theorem zCo_n3 {c : Nat} (h : zCo c) : zln (c + 3) = 8 := by rcases h with rfl | rfl | rfl <;> rfl
theorem zCo_n4 {c : Nat} (h : zCo c) : zln (c + 4) = 8 := by rcases h with rfl | rfl | rfl <;> rfl
theorem zSh_k {c : Nat} (h : zSh c) : zkd c = 1 := by rcases h with rfl | rfl | rfl | rfl | rfl | rfl | rfl | rfl <;> rfl
theorem zSh_r0 {c : Nat} (h : zSh c) : zrf c 0 = none := by rcases h with rfl | rfl | rfl | rfl | rfl | rfl | rfl | rfl <;> rfl
theorem zSh_r1 {c : Nat} (h : zSh c) : zrf c 1 = none := by rcases h with rfl | rfl | rfl | rfl | rfl | rfl | rfl | rfl <;> rfl
theorem zSh_r2 {c : Nat} (h : zSh c) : zrf c 2 = none := by rcases h with rfl | rfl | rfl | rfl | rfl | rfl | rfl | rfl <;> rfl
theorem zSh_r3 {c : Nat} (h : zSh c) : zrf c 3 = none := by rcases h with rfl | rfl | rfl | rfl | rfl | rfl | rfl | rfl <;> rfl
theorem zSh_r4 {c : Nat} (h : zSh c) : zrf c 4 = none := by rcases h with rfl | rfl | rfl | rfl | rfl | rfl | rfl | rfl <;> rfl
theorem zSh_r5 {c : Nat} (h : zSh c) : zrf c 5 = some (c + 1) := by rcases h with rfl | rfl | rfl | rfl | rfl | rfl | rfl | rfl <;> rfl
theorem zSh_a1 {c : Nat} (h : zSh c) : zkd (c + 1) = 4 := by rcases h with rfl | rfl | rfl | rfl | rfl | rfl | rfl | rfl <;> rfl
theorem zSh_n1 {c : Nat} (h : zSh c) : zln (c + 1) = 100 := by rcases h with rfl | rfl | rfl | rfl | rfl | rfl | rfl | rfl <;> rfl
