/-! MAKING: what the constructors leave behind, cell by cell -/
def rowE (cy : Nat → ClassId) (b : Nat) : Nat → va_E := fun j => match j with
  | 0 => .inr (2, [.ref (b + 1), .int (nI 1)])
  | _ => .inl (cy 0, 64, .inl (fun _ => nI 0))
def padE (cy : Nat → ClassId) (b : Nat) : Nat → va_E := fun j => match j with
  | 0 => .inr (1, [.ref (b + 1), .int (nI 0)])
  | _ => .inl (cy 0, 80, .inl (fun _ => nI 0))
def stP (cy : Nat → ClassId) (b k : Nat) : Nat → va_E := fun j => match j with
  | 0 => .inr (3, [.ref (b + 1)])
  | 1 => .inl (cy 3, 6, va_q (fun i => if i < k then some (b + (2 + 2 * i)) else none))
  | j + 2 => rowE cy (b + (2 + 2 * (j / 2))) (j % 2)
def hiP (cy : Nat → ClassId) (b k : Nat) : Nat → va_E := fun j => match j with
  | 0 => .inr (0, [.ref (b + 1), .int (nI 0)])
  | 1 => .inl (cy 4, 6, va_q (fun i => if i < k then some (b + (2 + 14 * i)) else none))
  | j + 2 => stP cy (b + (2 + 14 * (j / 14))) 6 (j % 14)
def topP (cy : Nat → ClassId) (b : Nat) (fs : List Value) (k : Nat) : Nat → va_E := fun j =>
  if j = 0 then .inr (4, fs) else if j < 15 then stP cy (b + 1) 6 (j - 1) else if j < 101 then hiP cy (b + 15) 6 (j - 15) else if j < 103 then padE cy (b + 101) (j - 101)
  else if j = 103 then .inl (cy 4, 2, va_q (fun i => if i < k then some (b + (115 + 14 * i)) else none)) else if j = 104 then .inl (cy 1, 2, .inl (fun _ => nI 0))
  else if j < 115 then rowE cy (b + (105 + 2 * ((j - 105) / 2))) ((j - 105) % 2) else stP cy (b + (115 + 14 * ((j - 115) / 14))) 6 ((j - 115) % 14)
theorem apW_e {W EC : Nat → va_E} {i nC : Nat} {e : va_E} (hEC : ∀ j, j < nC → EC j = W (i + j)) : ∀ j, j < i + nC → apW (va_up W i e) i EC j = W j := by
  intro j hj
  unfold apW
  by_cases z : j < i
  · rw [if_pos z, va_up_ne _ _ (by omega)]
  · rw [if_neg z, hEC (j - i) (by omega), show i + (j - i) = j by omega]
theorem va_up_id {W : Nat → va_E} {n : Nat} {e : va_E} (h : W n = e) : va_up W n e = W := by
  funext j
  by_cases z : j = n
  · rw [z, va_up_self, h]
  · rw [va_up_ne _ _ z]
section SPC
variable {cy : Nat → ClassId} {b k i : Nat} {fs : List Value}
theorem some_up (b c d k : Nat) : va_up (fun i => if i < k then some (b + (c + d * i)) else none) k (some (b + (c + d * k))) = fun i => if i < k + 1 then some (b + (c + d * i)) else none := by
  funext i
  by_cases z : i = k
  · rw [z, va_up_self, if_pos (Nat.lt_succ_self k)]
  · rw [va_up_ne _ _ z]
    by_cases y : i < k
    · rw [if_pos y, if_pos (by omega)]
    · rw [if_neg y, if_neg (by omega)]
theorem none_0 (b c d : Nat) : (fun _ => none : Nat → Option Nat) = fun i => if i < 0 then some (b + (c + d * i)) else none := by
  funext i
  rw [if_neg (Nat.not_lt_zero i)]
theorem stP_r : ∀ j, j < 2 → rowE cy (b + (2 + 2 * k)) j = stP cy b i (2 + 2 * k + j) := by
  intro j hj
  rw [show 2 + 2 * k + j = (2 * k + j) + 2 by omega]
  show _ = rowE cy (b + (2 + 2 * ((2 * k + j) / 2))) ((2 * k + j) % 2)
  rw [show (2 * k + j) / 2 = k by omega, show (2 * k + j) % 2 = j by omega]
theorem stP_s : va_up (stP cy b k) 1 (.inl (cy 3, 6, va_q (va_up (fun i => if i < k then some (b + (2 + 2 * i)) else none) k (some (aA b (2 + 2 * k)))))) = stP cy b (k + 1) := by
  rw [show aA b (2 + 2 * k) = b + (2 + 2 * k) from rfl, some_up]
  funext j
  match j with
  | 0 => rfl
  | 1 => rfl
  | j + 2 => rw [va_up_ne _ _ (by omega)]; rfl
theorem hiP_r : ∀ j, j < 14 → stP cy (b + (2 + 14 * k)) 6 j = hiP cy b i (2 + 14 * k + j) := by
  intro j hj
  rw [show 2 + 14 * k + j = (14 * k + j) + 2 by omega]
  show _ = stP cy (b + (2 + 14 * ((14 * k + j) / 14))) 6 ((14 * k + j) % 14)
  rw [show (14 * k + j) / 14 = k by omega, show (14 * k + j) % 14 = j by omega]
theorem hiP_s : va_up (hiP cy b k) 1 (.inl (cy 4, 6, va_q (va_up (fun i => if i < k then some (b + (2 + 14 * i)) else none) k (some (aA b (2 + 14 * k)))))) = hiP cy b (k + 1) := by
  rw [show aA b (2 + 14 * k) = b + (2 + 14 * k) from rfl, some_up]
  funext j
  match j with
  | 0 => rfl
  | 1 => rfl
  | j + 2 => rw [va_up_ne _ _ (by omega)]; rfl
theorem topP_0 : topP cy b fs k 0 = .inr (4, fs) := if_pos rfl
theorem topP_fs {fs' : List Value} : va_up (topP cy b fs k) 0 (.inr (4, fs')) = topP cy b fs' k := by
  funext j
  by_cases z : j = 0
  · rw [z, va_up_self, topP_0]
  · rw [va_up_ne _ _ z]
    unfold topP
    rw [if_neg z, if_neg z]
theorem topP_st : ∀ j, j < 14 → stP cy (b + 1) 6 j = topP cy b fs k (1 + j) := by
  intro j hj
  unfold topP
  rw [if_neg (by omega), if_pos (by omega), show 1 + j - 1 = j by omega]
theorem topP_hi : ∀ j, j < 86 → hiP cy (b + 15) 6 j = topP cy b fs k (15 + j) := by
  intro j hj
  unfold topP
  rw [if_neg (by omega), if_neg (by omega), if_pos (by omega), show 15 + j - 15 = j by omega]
theorem topP_pd : ∀ j, j < 2 → padE cy (b + 101) j = topP cy b fs k (101 + j) := by
  intro j hj
  unfold topP
  rw [if_neg (by omega), if_neg (by omega), if_neg (by omega), if_pos (by omega), show 101 + j - 101 = j by omega]
theorem topP_sl : topP cy b fs k 103 = .inl (cy 4, 2, va_q (fun i => if i < k then some (b + (115 + 14 * i)) else none)) := by
  unfold topP
  rw [if_neg (by omega), if_neg (by omega), if_neg (by omega), if_neg (by omega), if_pos rfl]
theorem topP_sv : topP cy b fs k 104 = .inl (cy 1, 2, .inl (fun _ => nI 0)) := by
  unfold topP
  rw [if_neg (by omega), if_neg (by omega), if_neg (by omega), if_neg (by omega), if_neg (by omega), if_pos rfl]
theorem topP_rw (hi : i < 5) : ∀ j, j < 2 → rowE cy (b + (105 + 2 * i)) j = topP cy b fs k (105 + 2 * i + j) := by
  intro j hj
  unfold topP
  rw [if_neg (by omega), if_neg (by omega), if_neg (by omega), if_neg (by omega), if_neg (by omega), if_neg (by omega), if_pos (by omega), show (105 + 2 * i + j - 105) / 2 = i by omega, show (105 + 2 * i + j - 105) % 2 = j by omega]
theorem topP_ss : ∀ j, j < 14 → stP cy (b + (115 + 14 * i)) 6 j = topP cy b fs k (115 + 14 * i + j) := by
  intro j hj
  unfold topP
  rw [if_neg (by omega), if_neg (by omega), if_neg (by omega), if_neg (by omega), if_neg (by omega), if_neg (by omega), if_neg (by omega), show (115 + 14 * i + j - 115) / 14 = i by omega, show (115 + 14 * i + j - 115) % 14 = j by omega]
theorem topP_s : va_up (topP cy b fs k) 103 (.inl (cy 4, 2, va_q (va_up (fun i => if i < k then some (b + (115 + 14 * i)) else none) k (some (aA b (115 + 14 * k)))))) = topP cy b fs (k + 1) := by
  rw [show aA b (115 + 14 * k) = b + (115 + 14 * k) from rfl, some_up]
  funext j
  by_cases z : j = 103
  · rw [z, va_up_self, topP_sl]
  · rw [va_up_ne _ _ z]
    unfold topP
    by_cases z1 : j < 103
    · by_cases z0 : j = 0
      · rw [if_pos z0, if_pos z0]
      · by_cases z2 : j < 15
        · rw [if_neg z0, if_neg z0, if_pos z2, if_pos z2]
        · by_cases z3 : j < 101
          · rw [if_neg z0, if_neg z0, if_neg z2, if_neg z2, if_pos z3, if_pos z3]
          · rw [if_neg z0, if_neg z0, if_neg z2, if_neg z2, if_neg z3, if_neg z3, if_pos z1, if_pos z1]
    · rw [if_neg (show ¬ j = 0 by omega), if_neg (show ¬ j = 0 by omega), if_neg (show ¬ j < 15 by omega), if_neg (show ¬ j < 15 by omega), if_neg (show ¬ j < 101 by omega), if_neg (show ¬ j < 101 by omega), if_neg z1, if_neg z1, if_neg z, if_neg z]
end SPC
