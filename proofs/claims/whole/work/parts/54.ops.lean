/-! what changes a row -/
section PO
variable {V : Vy} {A : Nat → Prop} {w : Rw} {L : Lw} {a p d i v : Nat} {x : Int32} {f : Nat → Int32} {ag : Nat → Nat} {od : Nat → Bool}
def w_sK (w : Rw) (a p v : Nat) : Rw := (fun b q => if b = a ∧ q = p then v else w_K w b q, w.2)
def w_sc (w : Rw) (i a : Nat) (x : Int32) : Rw := (w.1, fun j b => if j = i ∧ b = a then x else w_c w j b, w.2.2)
def w_sp (w : Rw) (d : Nat) : Rw := (w.1, w.2.1, fun e => decide (e = d) || w_p w e, w.2.2.2)
theorem w_sK_K (w : Rw) (a p v b q : Nat) : w_K (w_sK w a p v) b q = if b = a ∧ q = p then v else w_K w b q := rfl
theorem w_sK_c (w : Rw) (a p v j b : Nat) : w_c (w_sK w a p v) j b = w_c w j b := rfl
theorem w_sc_c (w : Rw) (i a : Nat) (x : Int32) (j b : Nat) : w_c (w_sc w i a x) j b = if j = i ∧ b = a then x else w_c w j b := rfl
theorem ROK.sK (h : ROK V w) (hv : v ≤ y_l V p) : ROK V (w_sK w a p v) := ⟨fun b hb q hq => by
  rw [w_sK_K]
  split
  · next e => rw [e.2]; exact hv
  · exact h.1 b hb q hq, h.2⟩
theorem RC.sK (hV : VOK V) (h : RC V A w f) (ha : a < y_M V) (hp : p < y_P V) (hv : v ≤ y_l V p) : RC V A (w_sK w a p v) (upd f (0 + a * 8 + p) (nI v)) := by
  have h1 := hV.1
  have h2 := hV.2.1
  refine ⟨fun b hA hb q hq => ?_, fun b hA hb => ⟨?_, ?_, ?_, ?_⟩, ?_, ?_, h.2.2.2.2.sK hv⟩
  · rw [upd_i, w_sK_K]
    split <;> split <;> first | rfl | (exfalso; omega) | exact h.1 b hA hb q hq
  · rw [upd_n _ _ (by omega)]; exact (h.2.1 b hA hb).1
  · rw [upd_n _ _ (by omega)]; exact (h.2.1 b hA hb).2.1
  · rw [upd_n _ _ (by omega)]; exact (h.2.1 b hA hb).2.2.1
  · rw [upd_n _ _ (by omega)]; exact (h.2.1 b hA hb).2.2.2
  · rw [upd_n _ _ (by omega)]; exact h.2.2.1
  · rw [upd_n _ _ (by omega)]; exact h.2.2.2.1
theorem RC.sc (hV : VOK V) (h : RC V A w f) (ha : a < y_M V) (hi : i < 4) : RC V A (w_sc w i a x) (upd f (48 + 6 * i + a) x) := by
  have h1 := hV.1
  have h2 := hV.2.1
  refine ⟨fun b hA hb q hq => ?_, fun b hA hb => ⟨?_, ?_, ?_, ?_⟩, ?_, ?_, h.2.2.2.2⟩
  · rw [upd_n _ _ (by omega)]; exact h.1 b hA hb q hq
  · rw [upd_i, w_sc_c]
    split <;> split <;> first | rfl | (exfalso; omega) | exact (h.2.1 b hA hb).1
  · rw [upd_i, w_sc_c]
    split <;> split <;> first | rfl | (exfalso; omega) | exact (h.2.1 b hA hb).2.1
  · rw [upd_i, w_sc_c]
    split <;> split <;> first | rfl | (exfalso; omega) | exact (h.2.1 b hA hb).2.2.1
  · rw [upd_i, w_sc_c]
    split <;> split <;> first | rfl | (exfalso; omega) | exact (h.2.1 b hA hb).2.2.2
  · rw [upd_n _ _ (by omega)]; exact h.2.2.1
  · rw [upd_n _ _ (by omega)]; exact h.2.2.2.1
theorem RC.sp (hV : VOK V) (h : RC V A w f) (hd : d < y_D V) : RC V A (w_sp w d) (upd f 72 (f 72 ||| ((1 : Int32) <<< (nI d &&& 31)))) := by
  have h1 := hV.1
  have h2 := hV.2.1
  have h3 := hV.2.2.1
  refine ⟨fun b hA hb q hq => ?_, fun b hA hb => ⟨?_, ?_, ?_, ?_⟩, ?_, ?_, h.2.2.2.2⟩
  · rw [upd_n _ _ (by omega)]; exact h.1 b hA hb q hq
  · rw [upd_n _ _ (by omega)]; exact (h.2.1 b hA hb).1
  · rw [upd_n _ _ (by omega)]; exact (h.2.1 b hA hb).2.1
  · rw [upd_n _ _ (by omega)]; exact (h.2.1 b hA hb).2.2.1
  · rw [upd_n _ _ (by omega)]; exact (h.2.1 b hA hb).2.2.2
  · rw [upd_s, h.2.2.1, orB_set (by omega) hd]; rfl
  · rw [upd_n _ _ (by omega)]; exact h.2.2.2.1
theorem RC.congr {w' : Rw} (h : RC V A w f) (hk : ROK V w') (h1 : ∀ a, A a → a < y_M V → ∀ p, p < y_P V → w_K w a p = w_K w' a p) (h2 : ∀ i, i < 4 → ∀ a, A a → a < y_M V → w_c w i a = w_c w' i a) (h3 : ∀ d, d < y_D V → w_p w d = w_p w' d) (h4 : w_t w = w_t w') : RC V A w' f :=
  ⟨fun b hA hb q hq => by rw [← h1 b hA hb q hq]; exact h.1 b hA hb q hq, fun b hA hb => by
    rw [← h2 0 (by omega) b hA hb, ← h2 1 (by omega) b hA hb, ← h2 2 (by omega) b hA hb, ← h2 3 (by omega) b hA hb]
    exact h.2.1 b hA hb, by rw [← orB_congr h3]; exact h.2.2.1, by rw [← h4]; exact h.2.2.2.1, hk⟩
theorem RC.sub {B : Nat → Prop} (h : RC V A w f) (hB : ∀ a, a < y_M V → B a → A a) : RC V B w f :=
  ⟨fun b hb h9 q hq => h.1 b (hB b h9 hb) h9 q hq, fun b hb h9 => h.2.1 b (hB b h9 hb) h9, h.2.2⟩
theorem RRg.sK (hV : VOK V) (h : RRg V A w ag od f) (ha : a < y_M V) (hp : p < y_P V) (hv : v ≤ y_l V p) : RRg V A (w_sK w a p v) ag od (upd f (0 + 8 * a + p) (nI v)) := by
  have h1 := hV.1
  have h2 := hV.2.1
  refine ⟨fun b hA hb q hq => ?_, fun b hA hb => ⟨?_, ?_, ?_, ?_, ?_, ?_⟩, fun e he => ?_, ?_, h.2.2.2.2.sK hv⟩
  · rw [upd_i, w_sK_K]
    split <;> split <;> first | rfl | (exfalso; omega) | exact h.1 b hA hb q hq
  · rw [upd_n _ _ (by omega)]; exact (h.2.1 b hA hb).1
  · rw [upd_n _ _ (by omega)]; exact (h.2.1 b hA hb).2.1
  · rw [upd_n _ _ (by omega)]; exact (h.2.1 b hA hb).2.2.1
  · rw [upd_n _ _ (by omega)]; exact (h.2.1 b hA hb).2.2.2.1
  · rw [upd_n _ _ (by omega)]; exact (h.2.1 b hA hb).2.2.2.2.1
  · rw [upd_n _ _ (by omega)]; exact (h.2.1 b hA hb).2.2.2.2.2
  · rw [upd_n _ _ (by omega)]; exact h.2.2.1 e he
  · rw [upd_n _ _ (by omega)]; exact h.2.2.2.1
theorem RRg.sc (hV : VOK V) (h : RRg V A w ag od f) (ha : a < y_M V) (hi : i < 4) : RRg V A (w_sc w i a x) ag od (upd f (60 + 6 * i + a) x) := by
  have h1 := hV.1
  have h2 := hV.2.1
  have h3 := hV.2.2.1
  refine ⟨fun b hA hb q hq => ?_, fun b hA hb => ⟨?_, ?_, ?_, ?_, ?_, ?_⟩, fun e he => ?_, ?_, h.2.2.2.2⟩
  · rw [upd_n _ _ (by omega)]; exact h.1 b hA hb q hq
  · rw [upd_n _ _ (by omega)]; exact (h.2.1 b hA hb).1
  · rw [upd_n _ _ (by omega)]; exact (h.2.1 b hA hb).2.1
  · rw [upd_i, w_sc_c]
    split <;> split <;> first | rfl | (exfalso; omega) | exact (h.2.1 b hA hb).2.2.1
  · rw [upd_i, w_sc_c]
    split <;> split <;> first | rfl | (exfalso; omega) | exact (h.2.1 b hA hb).2.2.2.1
  · rw [upd_i, w_sc_c]
    split <;> split <;> first | rfl | (exfalso; omega) | exact (h.2.1 b hA hb).2.2.2.2.1
  · rw [upd_i, w_sc_c]
    split <;> split <;> first | rfl | (exfalso; omega) | exact (h.2.1 b hA hb).2.2.2.2.2
  · rw [upd_n _ _ (by omega)]; exact h.2.2.1 e he
  · rw [upd_n _ _ (by omega)]; exact h.2.2.2.1
theorem RRg.sp (hV : VOK V) (h : RRg V A w ag od f) (hd : d < y_D V) : RRg V A (w_sp w d) ag od (upd f (84 + d) 1) := by
  have h1 := hV.1
  have h2 := hV.2.1
  have h3 := hV.2.2.1
  refine ⟨fun b hA hb q hq => ?_, fun b hA hb => ⟨?_, ?_, ?_, ?_, ?_, ?_⟩, fun e he => ?_, ?_, h.2.2.2.2⟩
  · rw [upd_n _ _ (by omega)]; exact h.1 b hA hb q hq
  · rw [upd_n _ _ (by omega)]; exact (h.2.1 b hA hb).1
  · rw [upd_n _ _ (by omega)]; exact (h.2.1 b hA hb).2.1
  · rw [upd_n _ _ (by omega)]; exact (h.2.1 b hA hb).2.2.1
  · rw [upd_n _ _ (by omega)]; exact (h.2.1 b hA hb).2.2.2.1
  · rw [upd_n _ _ (by omega)]; exact (h.2.1 b hA hb).2.2.2.2.1
  · rw [upd_n _ _ (by omega)]; exact (h.2.1 b hA hb).2.2.2.2.2
  · by_cases q : e = d
    · subst q
      rw [upd_s]
      show 1 = if (decide (e = e) || w_p w e) = true then (1 : Int32) else 0
      simp
    · rw [upd_n _ _ (by omega), h.2.2.1 e he]
      show _ = if (decide (e = d) || w_p w e) = true then (1 : Int32) else 0
      simp [q]
  · rw [upd_n _ _ (by omega)]; exact h.2.2.2.1
theorem RRg.sa (hV : VOK V) (h : RRg V A w ag od f) (ha : a < y_M V) : RRg V A w (fun b => if b = a then v else ag b) od (upd f (48 + a) (nI v)) := by
  have h1 := hV.1
  have h2 := hV.2.1
  refine ⟨fun b hA hb q hq => ?_, fun b hA hb => ⟨?_, ?_, ?_, ?_, ?_, ?_⟩, fun e he => ?_, ?_, h.2.2.2.2⟩
  · rw [upd_n _ _ (by omega)]; exact h.1 b hA hb q hq
  · show _ = nI (if b = a then v else ag b)
    rw [upd_i]
    split <;> split <;> first | rfl | (exfalso; omega) | exact (h.2.1 b hA hb).1
  · rw [upd_n _ _ (by omega)]; exact (h.2.1 b hA hb).2.1
  · rw [upd_n _ _ (by omega)]; exact (h.2.1 b hA hb).2.2.1
  · rw [upd_n _ _ (by omega)]; exact (h.2.1 b hA hb).2.2.2.1
  · rw [upd_n _ _ (by omega)]; exact (h.2.1 b hA hb).2.2.2.2.1
  · rw [upd_n _ _ (by omega)]; exact (h.2.1 b hA hb).2.2.2.2.2
  · rw [upd_n _ _ (by omega)]; exact h.2.2.1 e he
  · rw [upd_n _ _ (by omega)]; exact h.2.2.2.1
theorem RRg.so (hV : VOK V) (h : RRg V A w ag od f) (ha : a < y_M V) : RRg V A w ag (fun b => decide (b = a) || od b) (upd f (54 + a) 1) := by
  have h1 := hV.1
  have h2 := hV.2.1
  refine ⟨fun b hA hb q hq => ?_, fun b hA hb => ⟨?_, ?_, ?_, ?_, ?_, ?_⟩, fun e he => ?_, ?_, h.2.2.2.2⟩
  · rw [upd_n _ _ (by omega)]; exact h.1 b hA hb q hq
  · rw [upd_n _ _ (by omega)]; exact (h.2.1 b hA hb).1
  · by_cases q : b = a
    · subst q
      rw [upd_s]
      simp
    · rw [upd_n _ _ (by omega), (h.2.1 b hA hb).2.1]
      simp [q]
  · rw [upd_n _ _ (by omega)]; exact (h.2.1 b hA hb).2.2.1
  · rw [upd_n _ _ (by omega)]; exact (h.2.1 b hA hb).2.2.2.1
  · rw [upd_n _ _ (by omega)]; exact (h.2.1 b hA hb).2.2.2.2.1
  · rw [upd_n _ _ (by omega)]; exact (h.2.1 b hA hb).2.2.2.2.2
  · rw [upd_n _ _ (by omega)]; exact h.2.2.1 e he
  · rw [upd_n _ _ (by omega)]; exact h.2.2.2.1
theorem RRg.congr {w' : Rw} {ag' : Nat → Nat} {od' : Nat → Bool} (h : RRg V A w ag od f) (hk : ROK V w') (h1 : ∀ a, A a → a < y_M V → ∀ p, p < y_P V → w_K w a p = w_K w' a p) (h2 : ∀ i, i < 4 → ∀ a, A a → a < y_M V → w_c w i a = w_c w' i a) (h3 : ∀ d, d < y_D V → w_p w d = w_p w' d) (h4 : w_t w = w_t w') (h5 : ∀ a, A a → a < y_M V → ag a = ag' a) (h6 : ∀ a, A a → a < y_M V → od a = od' a) : RRg V A w' ag' od' f :=
  ⟨fun b hA hb q hq => by rw [← h1 b hA hb q hq]; exact h.1 b hA hb q hq, fun b hA hb => by
    rw [← h2 0 (by omega) b hA hb, ← h2 1 (by omega) b hA hb, ← h2 2 (by omega) b hA hb, ← h2 3 (by omega) b hA hb, ← h5 b hA hb, ← h6 b hA hb]
    exact h.2.1 b hA hb, fun d hd => by rw [← h3 d hd]; exact h.2.2.1 d hd, by rw [← h4]; exact h.2.2.2.1, hk⟩
theorem RR.sub {B : Nat → Prop} (h : RR V A w f) (hB : ∀ a, a < y_M V → B a → A a) : RR V B w f :=
  ⟨fun b hb h9 q hq => h.1 b (hB b h9 hb) h9 q hq, fun b hb h9 => h.2.1 b (hB b h9 hb) h9, h.2.2⟩
theorem RR.sK (hV : VOK V) (h : RR V A w f) (ha : a < y_M V) (hp : p < y_P V) (hv : v ≤ y_l V p) : RR V A (w_sK w a p v) (upd f (0 + 8 * a + p) (nI v)) := RRg.sK hV h ha hp hv
theorem RR.sc (hV : VOK V) (h : RR V A w f) (ha : a < y_M V) (hi : i < 4) : RR V A (w_sc w i a x) (upd f (60 + 6 * i + a) x) := RRg.sc hV h ha hi
theorem RR.sp (hV : VOK V) (h : RR V A w f) (hd : d < y_D V) : RR V A (w_sp w d) (upd f (84 + d) 1) := RRg.sp hV h hd
/-- the steps, and a week's end -/
def w_teach (V : Vy) (L : Lw) (w : Rw) (a p : Nat) : Rw := if w_gain V L w a p = 0 then w else w_sc (w_sc (w_sc (w_sK w a p (w_K w a p + w_gain V L w a p)) 0 a (w_c w 0 a + 1)) 1 a (w_c w 1 a + 1)) 3 a (w_c w 3 a ||| ((1 : Int32) <<< (nI p &&& 31)))
def w_forget (w : Rw) (a p : Nat) : Rw := if w_K w a p = 0 then w else w_sK w a p 0
def w_slip (w : Rw) (a p : Nat) : Rw := w_sc (w_sK w a p (w_K w a p - 4)) 2 a (w_c w 2 a + 1)
def w_well (V : Vy) (w : Rw) (d : Nat) : Bool := if y_dk V d = 0 then decide (y_l V (y_dp V d) ≤ w_K w (y_dm V d) (y_dp V d)) else if y_dk V d = 2 then decide (y_l V (y_dp V d) ≤ w_K w (y_dm V d) (y_dp V d)) && !decide (w_c w 1 (y_dm V d) ≤ 0) else decide (y_l V (y_dp V d) ≤ w_K w (y_dm V d) (y_dp V d)) || decide (y_l V (y_dp V d) / 2 + 1 ≤ w_K w (y_dm V d) (y_dp V d))
def w_say (V : Vy) (w : Rw) (d : Nat) : Rw := if w_p w d then w else if w_well V w d then w_sp w d else w_slip w (y_dm V d) (y_dp V d)
def w_two (V : Vy) (w : Rw) (d b : Nat) : Bool := decide (y_l V (y_dp V d) ≤ w_K w (y_dm V d) (y_dp V d) + w_K w b (y_dp V d))
def w_duet (V : Vy) (w : Rw) (d b : Nat) : Rw := if w_p w d || decide (b = y_dm V d) then w else if w_two V w d b then w_sp w d else w_slip (w_slip w (y_dm V d) (y_dp V d)) b (y_dp V d)
def w_bec (V : Vy) (w : Rw) (a : Nat) : Bool := decide ((w_t w + 1) % 10 = 0) && decide (y_a V a + (w_t w + 1) / 10 = 60)
def w_fad (V : Vy) (w : Rw) (a p : Nat) : Nat := if tb (w_c w 3 a) p then w_K w a p else w_K w a p - y_h V p / y_F V
def w_new (V : Vy) (w : Rw) (a p : Nat) : Nat := if w_bec V w a then 0 else w_fad V w a p
def w_week (V : Vy) (w : Rw) : Rw := (fun a p => w_new V w a p, fun i a => if i = 1 ∨ i = 3 then 0 else w_c w i a, w.2.2.1, w_t w + 1)
theorem w_new_le (V : Vy) (w : Rw) (a p : Nat) : w_new V w a p ≤ w_K w a p := by
  unfold w_new w_fad
  split
  · exact Nat.zero_le _
  · split
    · exact Nat.le_refl _
    · exact Nat.sub_le _ _
theorem w_fad_le (V : Vy) (w : Rw) (a p : Nat) : w_fad V w a p ≤ w_K w a p := by
  unfold w_fad
  split
  · exact Nat.le_refl _
  · exact Nat.sub_le _ _
theorem w_week_ok (h : ROK V w) (ht : w_t w < 1000) : ROK V (w_week V w) := ⟨fun a ha p hp => Nat.le_trans (w_new_le V w a p) (h.1 a ha p hp), ht⟩
theorem RC.ok (h : RC V A w f) : ROK V w := h.2.2.2.2
theorem RR.ok (h : RR V A w f) : ROK V w := h.2.2.2.2
end PO
