/-! ===== calls by their number of arguments; arraycopy ===== -/
/-- what goes on behind a call -/
def xK (k : xP) (b : Nat × Nat) (ls st : List xV) (r : xV) (μ : xMem) : Prop := k b ls (xpush r st) μ
def x_cV0 (M' : xMt) (d ci : Nat) (k : xP) (b : Nat × Nat) (ls st : List xV) (μ : xMem) : Prop := match st with
  | .inr (.inr (.inl (some q))) :: st => st.length ≤ 4 ∧ gK μ.1 q = some (.inl ci) ∧ xRM M' d (0, 0) [vr q] μ (xK k b ls st)
  | _ => False
def x_cV1 (M' : xMt) (d ci : Nat) (k : xP) (b : Nat × Nat) (ls st : List xV) (μ : xMem) : Prop := match st with
  | a1 :: .inr (.inr (.inl (some q))) :: st => st.length ≤ 4 ∧ gK μ.1 q = some (.inl ci) ∧ xRM M' d (0, 0) [vr q, a1] μ (xK k b ls st)
  | _ => False
def x_cV2 (M' : xMt) (d ci : Nat) (k : xP) (b : Nat × Nat) (ls st : List xV) (μ : xMem) : Prop := match st with
  | a2 :: a1 :: .inr (.inr (.inl (some q))) :: st => st.length ≤ 4 ∧ gK μ.1 q = some (.inl ci) ∧ xRM M' d (0, 0) [vr q, a1, a2] μ (xK k b ls st)
  | _ => False
def x_cV3 (M' : xMt) (d ci : Nat) (k : xP) (b : Nat × Nat) (ls st : List xV) (μ : xMem) : Prop := match st with
  | a3 :: a2 :: a1 :: .inr (.inr (.inl (some q))) :: st => st.length ≤ 4 ∧ gK μ.1 q = some (.inl ci) ∧ xRM M' d (0, 0) [vr q, a1, a2, a3] μ (xK k b ls st)
  | _ => False
def x_cV4 (M' : xMt) (d ci : Nat) (k : xP) (b : Nat × Nat) (ls st : List xV) (μ : xMem) : Prop := match st with
  | a4 :: a3 :: a2 :: a1 :: .inr (.inr (.inl (some q))) :: st => st.length ≤ 4 ∧ gK μ.1 q = some (.inl ci) ∧ xRM M' d (0, 0) [vr q, a1, a2, a3, a4] μ (xK k b ls st)
  | _ => False
def x_cV5 (M' : xMt) (d ci : Nat) (k : xP) (b : Nat × Nat) (ls st : List xV) (μ : xMem) : Prop := match st with
  | a5 :: a4 :: a3 :: a2 :: a1 :: .inr (.inr (.inl (some q))) :: st => st.length ≤ 4 ∧ gK μ.1 q = some (.inl ci) ∧ xRM M' d (0, 0) [vr q, a1, a2, a3, a4, a5] μ (xK k b ls st)
  | _ => False
def x_cV6 (M' : xMt) (d ci : Nat) (k : xP) (b : Nat × Nat) (ls st : List xV) (μ : xMem) : Prop := match st with
  | a6 :: a5 :: a4 :: a3 :: a2 :: a1 :: .inr (.inr (.inl (some q))) :: st => st.length ≤ 4 ∧ gK μ.1 q = some (.inl ci) ∧ xRM M' d (0, 0) [vr q, a1, a2, a3, a4, a5, a6] μ (xK k b ls st)
  | _ => False
def x_cV7 (M' : xMt) (d ci : Nat) (k : xP) (b : Nat × Nat) (ls st : List xV) (μ : xMem) : Prop := match st with
  | a7 :: a6 :: a5 :: a4 :: a3 :: a2 :: a1 :: .inr (.inr (.inl (some q))) :: st => st.length ≤ 4 ∧ gK μ.1 q = some (.inl ci) ∧ xRM M' d (0, 0) [vr q, a1, a2, a3, a4, a5, a6, a7] μ (xK k b ls st)
  | _ => False
def x_cV8 (M' : xMt) (d ci : Nat) (k : xP) (b : Nat × Nat) (ls st : List xV) (μ : xMem) : Prop := match st with
  | a8 :: a7 :: a6 :: a5 :: a4 :: a3 :: a2 :: a1 :: .inr (.inr (.inl (some q))) :: st => st.length ≤ 4 ∧ gK μ.1 q = some (.inl ci) ∧ xRM M' d (0, 0) [vr q, a1, a2, a3, a4, a5, a6, a7, a8] μ (xK k b ls st)
  | _ => False
def x_cS1 (M' : xMt) (d : Nat) (k : xP) (b : Nat × Nat) (ls st : List xV) (μ : xMem) : Prop := match st with
  | a1 :: st => st.length ≤ 4 ∧ xRM M' d (0, 0) [a1] μ (xK k b ls st)
  | _ => False
def x_cS2 (M' : xMt) (d : Nat) (k : xP) (b : Nat × Nat) (ls st : List xV) (μ : xMem) : Prop := match st with
  | a2 :: a1 :: st => st.length ≤ 4 ∧ xRM M' d (0, 0) [a1, a2] μ (xK k b ls st)
  | _ => False
def x_cS3 (M' : xMt) (d : Nat) (k : xP) (b : Nat × Nat) (ls st : List xV) (μ : xMem) : Prop := match st with
  | a3 :: a2 :: a1 :: st => st.length ≤ 4 ∧ xRM M' d (0, 0) [a1, a2, a3] μ (xK k b ls st)
  | _ => False
def x_cS4 (M' : xMt) (d : Nat) (k : xP) (b : Nat × Nat) (ls st : List xV) (μ : xMem) : Prop := match st with
  | a4 :: a3 :: a2 :: a1 :: st => st.length ≤ 4 ∧ xRM M' d (0, 0) [a1, a2, a3, a4] μ (xK k b ls st)
  | _ => False
def x_cS5 (M' : xMt) (d : Nat) (k : xP) (b : Nat × Nat) (ls st : List xV) (μ : xMem) : Prop := match st with
  | a5 :: a4 :: a3 :: a2 :: a1 :: st => st.length ≤ 4 ∧ xRM M' d (0, 0) [a1, a2, a3, a4, a5] μ (xK k b ls st)
  | _ => False
def x_cI0 (M' : xMt) (d : Nat) (bc : Nat × Nat) (k : xP) (b : Nat × Nat) (ls st : List xV) (μ : xMem) : Prop := match st with
  | .inr (.inr (.inl (some q))) :: st => st.length ≤ 4 ∧ (bc.1 ≤ b.1 ∧ bc.2 ≤ b.2) ∧ xRM M' d bc [vr q] μ (xK k (b.1 - bc.1, b.2 - bc.2) ls st)
  | _ => False
def x_cI1 (M' : xMt) (d : Nat) (bc : Nat × Nat) (k : xP) (b : Nat × Nat) (ls st : List xV) (μ : xMem) : Prop := match st with
  | a1 :: .inr (.inr (.inl (some q))) :: st => st.length ≤ 4 ∧ (bc.1 ≤ b.1 ∧ bc.2 ≤ b.2) ∧ xRM M' d bc [vr q, a1] μ (xK k (b.1 - bc.1, b.2 - bc.2) ls st)
  | _ => False
def cpy2 (σ : Nat → Nat → Int) (src sp dst dp n : Nat) : Nat → Nat → Int := fun k i => if k = dst ∧ dp ≤ i ∧ i < dp + n then σ src (sp + (i - dp)) else σ k i
def x_acopy (k : xP) (b : Nat × Nat) (ls st : List xV) (μ : xMem) : Prop := match st with
  | .inl n :: .inl dp :: .inr (.inr (.inl (some dst))) :: .inl sp :: .inr (.inr (.inl (some src))) :: st => gArr μ.1 src .int ∧ gArr μ.1 dst .int ∧ 0 ≤ n ∧ 0 ≤ sp ∧ 0 ≤ dp ∧ sp + n ≤ gLen μ.1 src ∧ dp + n ≤ gLen μ.1 dst ∧ st.length ≤ 4 ∧ k b ls st (μ.1, cpy2 μ.2 src sp.toNat dst dp.toNat n.toNat)
  | _ => False
section Calls
variable {M M' : xMt} {d pc ix : Nat} {Q : xV → xMem → Prop} {k : xP}
theorem s_cV0 {ci N : Nat} {T : u_T} (hE : xCee M' 0) (hl : Cond.methodLink M.1.cls ix M'.1 ∈ xG) (hi : Cond.instanceMethod M'.1 ∈ xG) (hse : Cond.selects M'.1.cls M'.1 M'.1 ∈ xG) (hcl : xCl ci M'.1.cls T N) (hd : decode M.2.1 pc = .ok (.invokevirtual ix, 3)) (hk : Snd M (d + 1) (pc + 3) Q k) : Snd M (d + 1) pc Q (x_cV0 M' d ci k) := fun b ls st μ h => by
  match st, h with
  | .inr (.inr (.inl (some q))) :: st, h => exact xR_callV (as := []) (bc := (0, 0)) hE hl hi hse hcl hd rfl h.1 h.2.1 ⟨Nat.zero_le _, Nat.zero_le _⟩ h.2.2 (fun r μ' hr => hk b ls _ μ' hr)
theorem s_cV1 {ci N : Nat} {T : u_T} (hE : xCee M' 1) (hl : Cond.methodLink M.1.cls ix M'.1 ∈ xG) (hi : Cond.instanceMethod M'.1 ∈ xG) (hse : Cond.selects M'.1.cls M'.1 M'.1 ∈ xG) (hcl : xCl ci M'.1.cls T N) (hd : decode M.2.1 pc = .ok (.invokevirtual ix, 3)) (hk : Snd M (d + 1) (pc + 3) Q k) : Snd M (d + 1) pc Q (x_cV1 M' d ci k) := fun b ls st μ h => by
  match st, h with
  | a1 :: .inr (.inr (.inl (some q))) :: st, h => exact xR_callV (as := [a1]) (bc := (0, 0)) hE hl hi hse hcl hd rfl h.1 h.2.1 ⟨Nat.zero_le _, Nat.zero_le _⟩ h.2.2 (fun r μ' hr => hk b ls _ μ' hr)
theorem s_cV2 {ci N : Nat} {T : u_T} (hE : xCee M' 2) (hl : Cond.methodLink M.1.cls ix M'.1 ∈ xG) (hi : Cond.instanceMethod M'.1 ∈ xG) (hse : Cond.selects M'.1.cls M'.1 M'.1 ∈ xG) (hcl : xCl ci M'.1.cls T N) (hd : decode M.2.1 pc = .ok (.invokevirtual ix, 3)) (hk : Snd M (d + 1) (pc + 3) Q k) : Snd M (d + 1) pc Q (x_cV2 M' d ci k) := fun b ls st μ h => by
  match st, h with
  | a2 :: a1 :: .inr (.inr (.inl (some q))) :: st, h => exact xR_callV (as := [a1, a2]) (bc := (0, 0)) hE hl hi hse hcl hd rfl h.1 h.2.1 ⟨Nat.zero_le _, Nat.zero_le _⟩ h.2.2 (fun r μ' hr => hk b ls _ μ' hr)
theorem s_cV3 {ci N : Nat} {T : u_T} (hE : xCee M' 3) (hl : Cond.methodLink M.1.cls ix M'.1 ∈ xG) (hi : Cond.instanceMethod M'.1 ∈ xG) (hse : Cond.selects M'.1.cls M'.1 M'.1 ∈ xG) (hcl : xCl ci M'.1.cls T N) (hd : decode M.2.1 pc = .ok (.invokevirtual ix, 3)) (hk : Snd M (d + 1) (pc + 3) Q k) : Snd M (d + 1) pc Q (x_cV3 M' d ci k) := fun b ls st μ h => by
  match st, h with
  | a3 :: a2 :: a1 :: .inr (.inr (.inl (some q))) :: st, h => exact xR_callV (as := [a1, a2, a3]) (bc := (0, 0)) hE hl hi hse hcl hd rfl h.1 h.2.1 ⟨Nat.zero_le _, Nat.zero_le _⟩ h.2.2 (fun r μ' hr => hk b ls _ μ' hr)
theorem s_cV4 {ci N : Nat} {T : u_T} (hE : xCee M' 4) (hl : Cond.methodLink M.1.cls ix M'.1 ∈ xG) (hi : Cond.instanceMethod M'.1 ∈ xG) (hse : Cond.selects M'.1.cls M'.1 M'.1 ∈ xG) (hcl : xCl ci M'.1.cls T N) (hd : decode M.2.1 pc = .ok (.invokevirtual ix, 3)) (hk : Snd M (d + 1) (pc + 3) Q k) : Snd M (d + 1) pc Q (x_cV4 M' d ci k) := fun b ls st μ h => by
  match st, h with
  | a4 :: a3 :: a2 :: a1 :: .inr (.inr (.inl (some q))) :: st, h => exact xR_callV (as := [a1, a2, a3, a4]) (bc := (0, 0)) hE hl hi hse hcl hd rfl h.1 h.2.1 ⟨Nat.zero_le _, Nat.zero_le _⟩ h.2.2 (fun r μ' hr => hk b ls _ μ' hr)
theorem s_cV5 {ci N : Nat} {T : u_T} (hE : xCee M' 5) (hl : Cond.methodLink M.1.cls ix M'.1 ∈ xG) (hi : Cond.instanceMethod M'.1 ∈ xG) (hse : Cond.selects M'.1.cls M'.1 M'.1 ∈ xG) (hcl : xCl ci M'.1.cls T N) (hd : decode M.2.1 pc = .ok (.invokevirtual ix, 3)) (hk : Snd M (d + 1) (pc + 3) Q k) : Snd M (d + 1) pc Q (x_cV5 M' d ci k) := fun b ls st μ h => by
  match st, h with
  | a5 :: a4 :: a3 :: a2 :: a1 :: .inr (.inr (.inl (some q))) :: st, h => exact xR_callV (as := [a1, a2, a3, a4, a5]) (bc := (0, 0)) hE hl hi hse hcl hd rfl h.1 h.2.1 ⟨Nat.zero_le _, Nat.zero_le _⟩ h.2.2 (fun r μ' hr => hk b ls _ μ' hr)
theorem s_cV6 {ci N : Nat} {T : u_T} (hE : xCee M' 6) (hl : Cond.methodLink M.1.cls ix M'.1 ∈ xG) (hi : Cond.instanceMethod M'.1 ∈ xG) (hse : Cond.selects M'.1.cls M'.1 M'.1 ∈ xG) (hcl : xCl ci M'.1.cls T N) (hd : decode M.2.1 pc = .ok (.invokevirtual ix, 3)) (hk : Snd M (d + 1) (pc + 3) Q k) : Snd M (d + 1) pc Q (x_cV6 M' d ci k) := fun b ls st μ h => by
  match st, h with
  | a6 :: a5 :: a4 :: a3 :: a2 :: a1 :: .inr (.inr (.inl (some q))) :: st, h => exact xR_callV (as := [a1, a2, a3, a4, a5, a6]) (bc := (0, 0)) hE hl hi hse hcl hd rfl h.1 h.2.1 ⟨Nat.zero_le _, Nat.zero_le _⟩ h.2.2 (fun r μ' hr => hk b ls _ μ' hr)
theorem s_cV7 {ci N : Nat} {T : u_T} (hE : xCee M' 7) (hl : Cond.methodLink M.1.cls ix M'.1 ∈ xG) (hi : Cond.instanceMethod M'.1 ∈ xG) (hse : Cond.selects M'.1.cls M'.1 M'.1 ∈ xG) (hcl : xCl ci M'.1.cls T N) (hd : decode M.2.1 pc = .ok (.invokevirtual ix, 3)) (hk : Snd M (d + 1) (pc + 3) Q k) : Snd M (d + 1) pc Q (x_cV7 M' d ci k) := fun b ls st μ h => by
  match st, h with
  | a7 :: a6 :: a5 :: a4 :: a3 :: a2 :: a1 :: .inr (.inr (.inl (some q))) :: st, h => exact xR_callV (as := [a1, a2, a3, a4, a5, a6, a7]) (bc := (0, 0)) hE hl hi hse hcl hd rfl h.1 h.2.1 ⟨Nat.zero_le _, Nat.zero_le _⟩ h.2.2 (fun r μ' hr => hk b ls _ μ' hr)
theorem s_cV8 {ci N : Nat} {T : u_T} (hE : xCee M' 8) (hl : Cond.methodLink M.1.cls ix M'.1 ∈ xG) (hi : Cond.instanceMethod M'.1 ∈ xG) (hse : Cond.selects M'.1.cls M'.1 M'.1 ∈ xG) (hcl : xCl ci M'.1.cls T N) (hd : decode M.2.1 pc = .ok (.invokevirtual ix, 3)) (hk : Snd M (d + 1) (pc + 3) Q k) : Snd M (d + 1) pc Q (x_cV8 M' d ci k) := fun b ls st μ h => by
  match st, h with
  | a8 :: a7 :: a6 :: a5 :: a4 :: a3 :: a2 :: a1 :: .inr (.inr (.inl (some q))) :: st, h => exact xR_callV (as := [a1, a2, a3, a4, a5, a6, a7, a8]) (bc := (0, 0)) hE hl hi hse hcl hd rfl h.1 h.2.1 ⟨Nat.zero_le _, Nat.zero_le _⟩ h.2.2 (fun r μ' hr => hk b ls _ μ' hr)
theorem s_cS1 (hE : xCee M' 1) (hl : Cond.methodLink M.1.cls ix M'.1 ∈ xG) (hi : Cond.static M'.1 ∈ xG) (hd : decode M.2.1 pc = .ok (.invokestatic ix, 3)) (hk : Snd M (d + 1) (pc + 3) Q k) : Snd M (d + 1) pc Q (x_cS1 M' d k) := fun b ls st μ h => by
  match st, h with
  | a1 :: st, h => exact xR_callS (as := [a1]) (bc := (0, 0)) hE hl hi hd rfl h.1 ⟨Nat.zero_le _, Nat.zero_le _⟩ h.2 (fun r μ' hr => hk b ls _ μ' hr)
theorem s_cS2 (hE : xCee M' 2) (hl : Cond.methodLink M.1.cls ix M'.1 ∈ xG) (hi : Cond.static M'.1 ∈ xG) (hd : decode M.2.1 pc = .ok (.invokestatic ix, 3)) (hk : Snd M (d + 1) (pc + 3) Q k) : Snd M (d + 1) pc Q (x_cS2 M' d k) := fun b ls st μ h => by
  match st, h with
  | a2 :: a1 :: st, h => exact xR_callS (as := [a1, a2]) (bc := (0, 0)) hE hl hi hd rfl h.1 ⟨Nat.zero_le _, Nat.zero_le _⟩ h.2 (fun r μ' hr => hk b ls _ μ' hr)
theorem s_cS3 (hE : xCee M' 3) (hl : Cond.methodLink M.1.cls ix M'.1 ∈ xG) (hi : Cond.static M'.1 ∈ xG) (hd : decode M.2.1 pc = .ok (.invokestatic ix, 3)) (hk : Snd M (d + 1) (pc + 3) Q k) : Snd M (d + 1) pc Q (x_cS3 M' d k) := fun b ls st μ h => by
  match st, h with
  | a3 :: a2 :: a1 :: st, h => exact xR_callS (as := [a1, a2, a3]) (bc := (0, 0)) hE hl hi hd rfl h.1 ⟨Nat.zero_le _, Nat.zero_le _⟩ h.2 (fun r μ' hr => hk b ls _ μ' hr)
theorem s_cS4 (hE : xCee M' 4) (hl : Cond.methodLink M.1.cls ix M'.1 ∈ xG) (hi : Cond.static M'.1 ∈ xG) (hd : decode M.2.1 pc = .ok (.invokestatic ix, 3)) (hk : Snd M (d + 1) (pc + 3) Q k) : Snd M (d + 1) pc Q (x_cS4 M' d k) := fun b ls st μ h => by
  match st, h with
  | a4 :: a3 :: a2 :: a1 :: st, h => exact xR_callS (as := [a1, a2, a3, a4]) (bc := (0, 0)) hE hl hi hd rfl h.1 ⟨Nat.zero_le _, Nat.zero_le _⟩ h.2 (fun r μ' hr => hk b ls _ μ' hr)
theorem s_cS5 (hE : xCee M' 5) (hl : Cond.methodLink M.1.cls ix M'.1 ∈ xG) (hi : Cond.static M'.1 ∈ xG) (hd : decode M.2.1 pc = .ok (.invokestatic ix, 3)) (hk : Snd M (d + 1) (pc + 3) Q k) : Snd M (d + 1) pc Q (x_cS5 M' d k) := fun b ls st μ h => by
  match st, h with
  | a5 :: a4 :: a3 :: a2 :: a1 :: st, h => exact xR_callS (as := [a1, a2, a3, a4, a5]) (bc := (0, 0)) hE hl hi hd rfl h.1 ⟨Nat.zero_le _, Nat.zero_le _⟩ h.2 (fun r μ' hr => hk b ls _ μ' hr)
theorem s_cI0 {bc : Nat × Nat} (hE : xCee M' 0) (hr : M'.2.2.2 = none) (hnm : M'.1.name = "<init>") (hl : Cond.methodLink M.1.cls ix M'.1 ∈ xG) (hi : Cond.instanceMethod M'.1 ∈ xG) (hd : decode M.2.1 pc = .ok (.invokespecial ix, 3)) (hk : Snd M (d + 1) (pc + 3) Q k) : Snd M (d + 1) pc Q (x_cI0 M' d bc k) := fun b ls st μ h => by
  match st, h with
  | .inr (.inr (.inl (some q))) :: st, h => exact xR_callI (as := []) hE hr hnm hl hi hd rfl h.1 h.2.1 h.2.2 (fun r μ' hr => hk _ ls _ μ' hr)
theorem s_cI1 {bc : Nat × Nat} (hE : xCee M' 1) (hr : M'.2.2.2 = none) (hnm : M'.1.name = "<init>") (hl : Cond.methodLink M.1.cls ix M'.1 ∈ xG) (hi : Cond.instanceMethod M'.1 ∈ xG) (hd : decode M.2.1 pc = .ok (.invokespecial ix, 3)) (hk : Snd M (d + 1) (pc + 3) Q k) : Snd M (d + 1) pc Q (x_cI1 M' d bc k) := fun b ls st μ h => by
  match st, h with
  | a1 :: .inr (.inr (.inl (some q))) :: st, h => exact xR_callI (as := [a1]) hE hr hnm hl hi hd rfl h.1 h.2.1 h.2.2 (fun r μ' hr => hk _ ls _ μ' hr)
theorem cpy2_wf {μ : xMem} (h : xWf μ) (src sp dst dp n : Nat) : xWf (μ.1, cpy2 μ.2 src sp dst dp n) := by
  refine ⟨fun k i => ?_, h.2⟩
  show i32 (cpy2 μ.2 src sp dst dp n k i)
  unfold cpy2
  split
  · exact h.1 _ _
  · exact h.1 k i
theorem cpy2_row {σ : Nat → Nat → Int} {src sp dst dp n k : Nat} (h : k ≠ dst) : cpy2 σ src sp dst dp n k = σ k := by
  funext i
  simp [cpy2, h]
theorem s_acopy (hl : Cond.methodLink M.1.cls ix arraycopyName ∈ xG) (h1 : Cond.native arraycopyName ∈ xG) (h2 : Cond.static arraycopyName ∈ xG) (h3 : Cond.initialized "java/lang/System" ∈ xG) (hd : decode M.2.1 pc = .ok (.invokestatic ix, 3)) (hk : Snd M (d + 1) (pc + 3) Q k) : Snd M (d + 1) pc Q (x_acopy k) := fun b ls st μ h => by
  match st, h with
  | .inl n :: .inl dp :: .inr (.inr (.inl (some dst))) :: .inl sp :: .inr (.inr (.inl (some src))) :: st, h =>
    obtain ⟨⟨n0, hq0⟩, ⟨n1, hq1⟩, b0, b1, b2, b3, b4, b5, h⟩ := h
    rw [gLen_of hq0] at b3
    rw [gLen_of hq1] at b4
    exact xR_mem (hk b ls _ _ h) (fun hst hwf => ⟨xok_tail (xok_tail (xok_tail (xok_tail (xok_tail hst)))), cpy2_wf hwf _ _ _ _ _⟩) (fun _ _ _ s _ _ _ _ _ Rm w g _ _ _ _ lsM _ hC hS hV _ hL hst hfr hlc kk => by
      have i0 : i32 n := xok_head hst
      have i1 : i32 dp := xok_head (xok_tail hst)
      have i2 : i32 sp := xok_head (xok_tail (xok_tail (xok_tail hst)))
      have nn : ∀ {x : Int}, i32 x → 0 ≤ x → ¬ Int32.ofInt x < 0 := fun hi h0 z => by
        rw [Int32.lt_iff_toInt_lt, toInt_i32 hi] at z
        simp at z
        omega
      have hKK : va_K w.2.1 vwCl [((g src).2, .int), ((g dst).2, .int)] s := (hS.K hq0).app (hS.K hq1)
      refine va_copyi (ty := .int) hC.1 hC.2.1 (hC.2.2.1.trans hL.1.1.symm) hC.2.2.2.1 (hC.2.2.2.2.1 _ hl) (hC.2.2.2.2.1 _ h1) (hC.2.2.2.2.1 _ h2) (hC.2.2.2.2.1 _ h3) hKK hS.1 hS.2.1 hV src dst 0 1 (xW_arr hS.2.2.2.2.2.1 hq0) (xW_arr hS.2.2.2.2.2.1 hq1) rfl rfl rfl (nn i2 b1) (nn i1 b2) (nn i0 b0) (by rw [x_clamp i2, x_clamp i0]; omega) (by rw [x_clamp i1, x_clamp i0]; omega) (fun _ _ => rfl) (by omega) ?_ hd (fun H1 locs1 q1 q2 q3 => ?_)
      · have := xsum (w := w) (g := g) st
        have : nativeFrameWords "java/lang/System" "arraycopy" 5 ≤ 16 := by decide +kernel
        omega
      · have e : (xW g μ).set dst ((g dst).1, .inl ((g dst).2, n1, .inl (va_cpy (fun j => Int32.ofInt (μ.2 src j)) (fun j => Int32.ofInt (μ.2 dst j)) sp.toNat dp.toNat n.toNat))) = xW g (μ.1, cpy2 μ.2 src sp.toNat dst dp.toNat n.toNat) := by
          refine xW_set rfl (hS.2.2.2.2.2.1.lt hq1) ?_ (fun k hk => xCell_congr rfl rfl (cpy2_row hk))
          have e : xCell g (μ.1, cpy2 μ.2 src sp.toNat dst dp.toNat n.toNat) dst = .inl ((g dst).2, n1, xArr g .int (cpy2 μ.2 src sp.toNat dst dp.toNat n.toNat dst) (gF μ.1 dst)) := by
            unfold xCell
            rw [show gK (μ.1, cpy2 μ.2 src sp.toNat dst dp.toNat n.toNat).1 dst = some (.inr (.int, n1)) from hq1]
          rw [e]
          unfold xArr
          dsimp only
          congr 4
          funext i
          unfold cpy2 va_cpy
          by_cases hi : dp.toNat ≤ i ∧ i < dp.toNat + n.toNat
          · rw [if_pos ⟨rfl, hi⟩, if_pos hi]
          · rw [if_neg (fun z => hi z.2), if_neg hi]
        rw [x_clamp i2, x_clamp i1, x_clamp i0, e] at q1 q2
        exact kk H1 locs1 q1 q2 q3)
end Calls
