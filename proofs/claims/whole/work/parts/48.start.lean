def e_fl : List Cond := flatC (Jvm.Cond.and given_1 narrow_1)
def e_tm (i : Nat) : Term := .string RX5 ((e_sl.getD i (0, "")).1)
theorem n_ex {args : Array Value} {s : State} (hf : ∀ (i : Nat) (w : Cond), e_fl[i]? = some w → w.before args s = true) : ∀ i : Nat, i < 13 → (Cond.exactly (e_tm i) "java/lang/String").before args s = true := by
  intro i hi
  rcases (show i = 0 ∨ i = 1 ∨ i = 2 ∨ i = 3 ∨ i = 4 ∨ i = 5 ∨ i = 6 ∨ i = 7 ∨ i = 8 ∨ i = 9 ∨ i = 10 ∨ i = 11 ∨ i = 12 by omega) with rfl | rfl | rfl | rfl | rfl | rfl | rfl | rfl | rfl | rfl | rfl | rfl | rfl
  · exact hf 67 _ rfl
  · exact hf 75 _ rfl
  · exact hf 85 _ rfl
  · exact hf 95 _ rfl
  · exact hf 103 _ rfl
  · exact hf 114 _ rfl
  · exact hf 125 _ rfl
  · exact hf 138 _ rfl
  · exact hf 150 _ rfl
  · exact hf 163 _ rfl
  · exact hf 177 _ rfl
  · exact hf 194 _ rfl
  · exact hf 211 _ rfl
theorem n_co {args : Array Value} {s : State} (hf : ∀ (i : Nat) (w : Cond), e_fl[i]? = some w → w.before args s = true) : ∀ i : Nat, i < 13 → (Cond.eq (.field (e_tm i) "java/lang/String" "coder" "B") (.int 0)).before args s = true := by
  intro i hi
  rcases (show i = 0 ∨ i = 1 ∨ i = 2 ∨ i = 3 ∨ i = 4 ∨ i = 5 ∨ i = 6 ∨ i = 7 ∨ i = 8 ∨ i = 9 ∨ i = 10 ∨ i = 11 ∨ i = 12 by omega) with rfl | rfl | rfl | rfl | rfl | rfl | rfl | rfl | rfl | rfl | rfl | rfl | rfl
  · exact hf 68 _ rfl
  · exact hf 76 _ rfl
  · exact hf 86 _ rfl
  · exact hf 96 _ rfl
  · exact hf 104 _ rfl
  · exact hf 115 _ rfl
  · exact hf 126 _ rfl
  · exact hf 139 _ rfl
  · exact hf 151 _ rfl
  · exact hf 164 _ rfl
  · exact hf 178 _ rfl
  · exact hf 195 _ rfl
  · exact hf 212 _ rfl
theorem n_ar {args : Array Value} {s : State} (hf : ∀ (i : Nat) (w : Cond), e_fl[i]? = some w → w.before args s = true) : ∀ i : Nat, i < 13 → (Cond.arrayOf (.field (e_tm i) "java/lang/String" "value" "[B") .byte).before args s = true := by
  intro i hi
  rcases (show i = 0 ∨ i = 1 ∨ i = 2 ∨ i = 3 ∨ i = 4 ∨ i = 5 ∨ i = 6 ∨ i = 7 ∨ i = 8 ∨ i = 9 ∨ i = 10 ∨ i = 11 ∨ i = 12 by omega) with rfl | rfl | rfl | rfl | rfl | rfl | rfl | rfl | rfl | rfl | rfl | rfl | rfl
  · exact hf 69 _ rfl
  · exact hf 77 _ rfl
  · exact hf 87 _ rfl
  · exact hf 97 _ rfl
  · exact hf 105 _ rfl
  · exact hf 116 _ rfl
  · exact hf 127 _ rfl
  · exact hf 140 _ rfl
  · exact hf 152 _ rfl
  · exact hf 165 _ rfl
  · exact hf 179 _ rfl
  · exact hf 196 _ rfl
  · exact hf 213 _ rfl
theorem n_le {args : Array Value} {s : State} (hf : ∀ (i : Nat) (w : Cond), e_fl[i]? = some w → w.before args s = true) : ∀ i : Nat, i < 13 → (Cond.eq (.length (.field (e_tm i) "java/lang/String" "value" "[B")) (.int (Int32.ofNat (e_sn.getD i 0)))).before args s = true := by
  intro i hi
  rcases (show i = 0 ∨ i = 1 ∨ i = 2 ∨ i = 3 ∨ i = 4 ∨ i = 5 ∨ i = 6 ∨ i = 7 ∨ i = 8 ∨ i = 9 ∨ i = 10 ∨ i = 11 ∨ i = 12 by omega) with rfl | rfl | rfl | rfl | rfl | rfl | rfl | rfl | rfl | rfl | rfl | rfl | rfl
  · exact hf 70 _ rfl
  · exact hf 78 _ rfl
  · exact hf 88 _ rfl
  · exact hf 98 _ rfl
  · exact hf 106 _ rfl
  · exact hf 117 _ rfl
  · exact hf 128 _ rfl
  · exact hf 141 _ rfl
  · exact hf 153 _ rfl
  · exact hf 166 _ rfl
  · exact hf 180 _ rfl
  · exact hf 197 _ rfl
  · exact hf 214 _ rfl
theorem n_el {args : Array Value} {s : State} (hf : ∀ (i : Nat) (w : Cond), e_fl[i]? = some w → w.before args s = true) : ∀ i : Nat, i < 13 → ∀ j : Nat, j < e_sn.getD i 0 → (Cond.eq (.elem (.field (e_tm i) "java/lang/String" "value" "[B") (.int (Int32.ofNat j))) (.int ((e_sb.getD i []).getD j 0))).before args s = true := by
  intro i hi j hj
  rcases (show i = 0 ∨ i = 1 ∨ i = 2 ∨ i = 3 ∨ i = 4 ∨ i = 5 ∨ i = 6 ∨ i = 7 ∨ i = 8 ∨ i = 9 ∨ i = 10 ∨ i = 11 ∨ i = 12 by omega) with rfl | rfl | rfl | rfl | rfl | rfl | rfl | rfl | rfl | rfl | rfl | rfl | rfl
  · have hj : j < 4 := hj
    rcases (show j = 0 ∨ j = 1 ∨ j = 2 ∨ j = 3 by omega) with rfl | rfl | rfl | rfl
    · exact hf 71 _ rfl
    · exact hf 72 _ rfl
    · exact hf 73 _ rfl
    · exact hf 74 _ rfl
  · have hj : j < 5 := hj
    rcases (show j = 0 ∨ j = 1 ∨ j = 2 ∨ j = 3 ∨ j = 4 by omega) with rfl | rfl | rfl | rfl | rfl
    · exact hf 79 _ rfl
    · exact hf 80 _ rfl
    · exact hf 81 _ rfl
    · exact hf 82 _ rfl
    · exact hf 83 _ rfl
  · have hj : j < 4 := hj
    rcases (show j = 0 ∨ j = 1 ∨ j = 2 ∨ j = 3 by omega) with rfl | rfl | rfl | rfl
    · exact hf 89 _ rfl
    · exact hf 90 _ rfl
    · exact hf 91 _ rfl
    · exact hf 92 _ rfl
  · have hj : j < 1 := hj
    rcases (show j = 0 by omega) with rfl
    · exact hf 99 _ rfl
  · have hj : j < 3 := hj
    rcases (show j = 0 ∨ j = 1 ∨ j = 2 by omega) with rfl | rfl | rfl
    · exact hf 107 _ rfl
    · exact hf 108 _ rfl
    · exact hf 109 _ rfl
  · have hj : j < 2 := hj
    rcases (show j = 0 ∨ j = 1 by omega) with rfl | rfl
    · exact hf 118 _ rfl
    · exact hf 119 _ rfl
  · have hj : j < 3 := hj
    rcases (show j = 0 ∨ j = 1 ∨ j = 2 by omega) with rfl | rfl | rfl
    · exact hf 129 _ rfl
    · exact hf 130 _ rfl
    · exact hf 131 _ rfl
  · have hj : j < 1 := hj
    rcases (show j = 0 by omega) with rfl
    · exact hf 142 _ rfl
  · have hj : j < 1 := hj
    rcases (show j = 0 by omega) with rfl
    · exact hf 154 _ rfl
  · have hj : j < 1 := hj
    rcases (show j = 0 by omega) with rfl
    · exact hf 167 _ rfl
  · have hj : j < 3 := hj
    rcases (show j = 0 ∨ j = 1 ∨ j = 2 by omega) with rfl | rfl | rfl
    · exact hf 181 _ rfl
    · exact hf 182 _ rfl
    · exact hf 183 _ rfl
  · have hj : j < 2 := hj
    rcases (show j = 0 ∨ j = 1 by omega) with rfl | rfl
    · exact hf 198 _ rfl
    · exact hf 199 _ rfl
  · have hj : j < 2 := hj
    rcases (show j = 0 ∨ j = 1 by omega) with rfl | rfl
    · exact hf 215 _ rfl
    · exact hf 216 _ rfl
theorem n_ne {args : Array Value} {s : State} (hf : ∀ (i : Nat) (w : Cond), e_fl[i]? = some w → w.before args s = true) : ∀ i j : Nat, i < 13 → j < 13 → i ≠ j → (Cond.not (Cond.eq (e_tm i) (e_tm j))).before args s = true ∨ (Cond.not (Cond.eq (e_tm j) (e_tm i))).before args s = true := by
  intro i j hi hj hij
  rcases (show i = 0 ∨ i = 1 ∨ i = 2 ∨ i = 3 ∨ i = 4 ∨ i = 5 ∨ i = 6 ∨ i = 7 ∨ i = 8 ∨ i = 9 ∨ i = 10 ∨ i = 11 ∨ i = 12 by omega) with rfl | rfl | rfl | rfl | rfl | rfl | rfl | rfl | rfl | rfl | rfl | rfl | rfl
  · rcases (show j = 0 ∨ j = 1 ∨ j = 2 ∨ j = 3 ∨ j = 4 ∨ j = 5 ∨ j = 6 ∨ j = 7 ∨ j = 8 ∨ j = 9 ∨ j = 10 ∨ j = 11 ∨ j = 12 by omega) with rfl | rfl | rfl | rfl | rfl | rfl | rfl | rfl | rfl | rfl | rfl | rfl | rfl
    · exact absurd rfl hij
    · exact Or.inl (hf 84 _ rfl)
    · exact Or.inl (hf 93 _ rfl)
    · exact Or.inl (hf 100 _ rfl)
    · exact Or.inl (hf 110 _ rfl)
    · exact Or.inl (hf 120 _ rfl)
    · exact Or.inl (hf 132 _ rfl)
    · exact Or.inl (hf 143 _ rfl)
    · exact Or.inl (hf 155 _ rfl)
    · exact Or.inl (hf 168 _ rfl)
    · exact Or.inl (hf 184 _ rfl)
    · exact Or.inl (hf 200 _ rfl)
    · exact Or.inl (hf 217 _ rfl)
  · rcases (show j = 0 ∨ j = 1 ∨ j = 2 ∨ j = 3 ∨ j = 4 ∨ j = 5 ∨ j = 6 ∨ j = 7 ∨ j = 8 ∨ j = 9 ∨ j = 10 ∨ j = 11 ∨ j = 12 by omega) with rfl | rfl | rfl | rfl | rfl | rfl | rfl | rfl | rfl | rfl | rfl | rfl | rfl
    · exact Or.inr (hf 84 _ rfl)
    · exact absurd rfl hij
    · exact Or.inl (hf 94 _ rfl)
    · exact Or.inl (hf 101 _ rfl)
    · exact Or.inl (hf 111 _ rfl)
    · exact Or.inl (hf 121 _ rfl)
    · exact Or.inl (hf 133 _ rfl)
    · exact Or.inl (hf 144 _ rfl)
    · exact Or.inl (hf 156 _ rfl)
    · exact Or.inl (hf 169 _ rfl)
    · exact Or.inl (hf 185 _ rfl)
    · exact Or.inl (hf 201 _ rfl)
    · exact Or.inl (hf 218 _ rfl)
  · rcases (show j = 0 ∨ j = 1 ∨ j = 2 ∨ j = 3 ∨ j = 4 ∨ j = 5 ∨ j = 6 ∨ j = 7 ∨ j = 8 ∨ j = 9 ∨ j = 10 ∨ j = 11 ∨ j = 12 by omega) with rfl | rfl | rfl | rfl | rfl | rfl | rfl | rfl | rfl | rfl | rfl | rfl | rfl
    · exact Or.inr (hf 93 _ rfl)
    · exact Or.inr (hf 94 _ rfl)
    · exact absurd rfl hij
    · exact Or.inl (hf 102 _ rfl)
    · exact Or.inl (hf 112 _ rfl)
    · exact Or.inl (hf 122 _ rfl)
    · exact Or.inl (hf 134 _ rfl)
    · exact Or.inl (hf 145 _ rfl)
    · exact Or.inl (hf 157 _ rfl)
    · exact Or.inl (hf 170 _ rfl)
    · exact Or.inl (hf 186 _ rfl)
    · exact Or.inl (hf 202 _ rfl)
    · exact Or.inl (hf 219 _ rfl)
  · rcases (show j = 0 ∨ j = 1 ∨ j = 2 ∨ j = 3 ∨ j = 4 ∨ j = 5 ∨ j = 6 ∨ j = 7 ∨ j = 8 ∨ j = 9 ∨ j = 10 ∨ j = 11 ∨ j = 12 by omega) with rfl | rfl | rfl | rfl | rfl | rfl | rfl | rfl | rfl | rfl | rfl | rfl | rfl
    · exact Or.inr (hf 100 _ rfl)
    · exact Or.inr (hf 101 _ rfl)
    · exact Or.inr (hf 102 _ rfl)
    · exact absurd rfl hij
    · exact Or.inl (hf 113 _ rfl)
    · exact Or.inl (hf 123 _ rfl)
    · exact Or.inl (hf 135 _ rfl)
    · exact Or.inl (hf 146 _ rfl)
    · exact Or.inl (hf 158 _ rfl)
    · exact Or.inl (hf 171 _ rfl)
    · exact Or.inl (hf 187 _ rfl)
    · exact Or.inl (hf 203 _ rfl)
    · exact Or.inl (hf 220 _ rfl)
  · rcases (show j = 0 ∨ j = 1 ∨ j = 2 ∨ j = 3 ∨ j = 4 ∨ j = 5 ∨ j = 6 ∨ j = 7 ∨ j = 8 ∨ j = 9 ∨ j = 10 ∨ j = 11 ∨ j = 12 by omega) with rfl | rfl | rfl | rfl | rfl | rfl | rfl | rfl | rfl | rfl | rfl | rfl | rfl
    · exact Or.inr (hf 110 _ rfl)
    · exact Or.inr (hf 111 _ rfl)
    · exact Or.inr (hf 112 _ rfl)
    · exact Or.inr (hf 113 _ rfl)
    · exact absurd rfl hij
    · exact Or.inl (hf 124 _ rfl)
    · exact Or.inl (hf 136 _ rfl)
    · exact Or.inl (hf 147 _ rfl)
    · exact Or.inl (hf 159 _ rfl)
    · exact Or.inl (hf 172 _ rfl)
    · exact Or.inl (hf 188 _ rfl)
    · exact Or.inl (hf 204 _ rfl)
    · exact Or.inl (hf 221 _ rfl)
  · rcases (show j = 0 ∨ j = 1 ∨ j = 2 ∨ j = 3 ∨ j = 4 ∨ j = 5 ∨ j = 6 ∨ j = 7 ∨ j = 8 ∨ j = 9 ∨ j = 10 ∨ j = 11 ∨ j = 12 by omega) with rfl | rfl | rfl | rfl | rfl | rfl | rfl | rfl | rfl | rfl | rfl | rfl | rfl
    · exact Or.inr (hf 120 _ rfl)
    · exact Or.inr (hf 121 _ rfl)
    · exact Or.inr (hf 122 _ rfl)
    · exact Or.inr (hf 123 _ rfl)
    · exact Or.inr (hf 124 _ rfl)
    · exact absurd rfl hij
    · exact Or.inl (hf 137 _ rfl)
    · exact Or.inl (hf 148 _ rfl)
    · exact Or.inl (hf 160 _ rfl)
    · exact Or.inl (hf 173 _ rfl)
    · exact Or.inl (hf 189 _ rfl)
    · exact Or.inl (hf 205 _ rfl)
    · exact Or.inl (hf 222 _ rfl)
  · rcases (show j = 0 ∨ j = 1 ∨ j = 2 ∨ j = 3 ∨ j = 4 ∨ j = 5 ∨ j = 6 ∨ j = 7 ∨ j = 8 ∨ j = 9 ∨ j = 10 ∨ j = 11 ∨ j = 12 by omega) with rfl | rfl | rfl | rfl | rfl | rfl | rfl | rfl | rfl | rfl | rfl | rfl | rfl
    · exact Or.inr (hf 132 _ rfl)
    · exact Or.inr (hf 133 _ rfl)
    · exact Or.inr (hf 134 _ rfl)
    · exact Or.inr (hf 135 _ rfl)
    · exact Or.inr (hf 136 _ rfl)
    · exact Or.inr (hf 137 _ rfl)
    · exact absurd rfl hij
    · exact Or.inl (hf 149 _ rfl)
    · exact Or.inl (hf 161 _ rfl)
    · exact Or.inl (hf 174 _ rfl)
    · exact Or.inl (hf 190 _ rfl)
    · exact Or.inl (hf 206 _ rfl)
    · exact Or.inl (hf 223 _ rfl)
  · rcases (show j = 0 ∨ j = 1 ∨ j = 2 ∨ j = 3 ∨ j = 4 ∨ j = 5 ∨ j = 6 ∨ j = 7 ∨ j = 8 ∨ j = 9 ∨ j = 10 ∨ j = 11 ∨ j = 12 by omega) with rfl | rfl | rfl | rfl | rfl | rfl | rfl | rfl | rfl | rfl | rfl | rfl | rfl
    · exact Or.inr (hf 143 _ rfl)
    · exact Or.inr (hf 144 _ rfl)
    · exact Or.inr (hf 145 _ rfl)
    · exact Or.inr (hf 146 _ rfl)
    · exact Or.inr (hf 147 _ rfl)
    · exact Or.inr (hf 148 _ rfl)
    · exact Or.inr (hf 149 _ rfl)
    · exact absurd rfl hij
    · exact Or.inl (hf 162 _ rfl)
    · exact Or.inl (hf 175 _ rfl)
    · exact Or.inl (hf 191 _ rfl)
    · exact Or.inl (hf 207 _ rfl)
    · exact Or.inl (hf 224 _ rfl)
  · rcases (show j = 0 ∨ j = 1 ∨ j = 2 ∨ j = 3 ∨ j = 4 ∨ j = 5 ∨ j = 6 ∨ j = 7 ∨ j = 8 ∨ j = 9 ∨ j = 10 ∨ j = 11 ∨ j = 12 by omega) with rfl | rfl | rfl | rfl | rfl | rfl | rfl | rfl | rfl | rfl | rfl | rfl | rfl
    · exact Or.inr (hf 155 _ rfl)
    · exact Or.inr (hf 156 _ rfl)
    · exact Or.inr (hf 157 _ rfl)
    · exact Or.inr (hf 158 _ rfl)
    · exact Or.inr (hf 159 _ rfl)
    · exact Or.inr (hf 160 _ rfl)
    · exact Or.inr (hf 161 _ rfl)
    · exact Or.inr (hf 162 _ rfl)
    · exact absurd rfl hij
    · exact Or.inl (hf 176 _ rfl)
    · exact Or.inl (hf 192 _ rfl)
    · exact Or.inl (hf 208 _ rfl)
    · exact Or.inl (hf 225 _ rfl)
  · rcases (show j = 0 ∨ j = 1 ∨ j = 2 ∨ j = 3 ∨ j = 4 ∨ j = 5 ∨ j = 6 ∨ j = 7 ∨ j = 8 ∨ j = 9 ∨ j = 10 ∨ j = 11 ∨ j = 12 by omega) with rfl | rfl | rfl | rfl | rfl | rfl | rfl | rfl | rfl | rfl | rfl | rfl | rfl
    · exact Or.inr (hf 168 _ rfl)
    · exact Or.inr (hf 169 _ rfl)
    · exact Or.inr (hf 170 _ rfl)
    · exact Or.inr (hf 171 _ rfl)
    · exact Or.inr (hf 172 _ rfl)
    · exact Or.inr (hf 173 _ rfl)
    · exact Or.inr (hf 174 _ rfl)
    · exact Or.inr (hf 175 _ rfl)
    · exact Or.inr (hf 176 _ rfl)
    · exact absurd rfl hij
    · exact Or.inl (hf 193 _ rfl)
    · exact Or.inl (hf 209 _ rfl)
    · exact Or.inl (hf 226 _ rfl)
  · rcases (show j = 0 ∨ j = 1 ∨ j = 2 ∨ j = 3 ∨ j = 4 ∨ j = 5 ∨ j = 6 ∨ j = 7 ∨ j = 8 ∨ j = 9 ∨ j = 10 ∨ j = 11 ∨ j = 12 by omega) with rfl | rfl | rfl | rfl | rfl | rfl | rfl | rfl | rfl | rfl | rfl | rfl | rfl
    · exact Or.inr (hf 184 _ rfl)
    · exact Or.inr (hf 185 _ rfl)
    · exact Or.inr (hf 186 _ rfl)
    · exact Or.inr (hf 187 _ rfl)
    · exact Or.inr (hf 188 _ rfl)
    · exact Or.inr (hf 189 _ rfl)
    · exact Or.inr (hf 190 _ rfl)
    · exact Or.inr (hf 191 _ rfl)
    · exact Or.inr (hf 192 _ rfl)
    · exact Or.inr (hf 193 _ rfl)
    · exact absurd rfl hij
    · exact Or.inl (hf 210 _ rfl)
    · exact Or.inl (hf 227 _ rfl)
  · rcases (show j = 0 ∨ j = 1 ∨ j = 2 ∨ j = 3 ∨ j = 4 ∨ j = 5 ∨ j = 6 ∨ j = 7 ∨ j = 8 ∨ j = 9 ∨ j = 10 ∨ j = 11 ∨ j = 12 by omega) with rfl | rfl | rfl | rfl | rfl | rfl | rfl | rfl | rfl | rfl | rfl | rfl | rfl
    · exact Or.inr (hf 200 _ rfl)
    · exact Or.inr (hf 201 _ rfl)
    · exact Or.inr (hf 202 _ rfl)
    · exact Or.inr (hf 203 _ rfl)
    · exact Or.inr (hf 204 _ rfl)
    · exact Or.inr (hf 205 _ rfl)
    · exact Or.inr (hf 206 _ rfl)
    · exact Or.inr (hf 207 _ rfl)
    · exact Or.inr (hf 208 _ rfl)
    · exact Or.inr (hf 209 _ rfl)
    · exact Or.inr (hf 210 _ rfl)
    · exact absurd rfl hij
    · exact Or.inl (hf 228 _ rfl)
  · rcases (show j = 0 ∨ j = 1 ∨ j = 2 ∨ j = 3 ∨ j = 4 ∨ j = 5 ∨ j = 6 ∨ j = 7 ∨ j = 8 ∨ j = 9 ∨ j = 10 ∨ j = 11 ∨ j = 12 by omega) with rfl | rfl | rfl | rfl | rfl | rfl | rfl | rfl | rfl | rfl | rfl | rfl | rfl
    · exact Or.inr (hf 217 _ rfl)
    · exact Or.inr (hf 218 _ rfl)
    · exact Or.inr (hf 219 _ rfl)
    · exact Or.inr (hf 220 _ rfl)
    · exact Or.inr (hf 221 _ rfl)
    · exact Or.inr (hf 222 _ rfl)
    · exact Or.inr (hf 223 _ rfl)
    · exact Or.inr (hf 224 _ rfl)
    · exact Or.inr (hf 225 _ rfl)
    · exact Or.inr (hf 226 _ rfl)
    · exact Or.inr (hf 227 _ rfl)
    · exact Or.inr (hf 228 _ rfl)
    · exact absurd rfl hij
theorem n_fx {args : Array Value} {s : State} (hf : ∀ (i : Nat) (w : Cond), e_fl[i]? = some w → w.before args s = true) : ∀ j : Nat, j < 5 → (Cond.eq (.elem (.static RX8 "FIRST_OF_X" "[I") (.int (Int32.ofNat j))) (.int (e_fx j))).before args s = true := by
  intro i hi
  rcases (show i = 0 ∨ i = 1 ∨ i = 2 ∨ i = 3 ∨ i = 4 by omega) with rfl | rfl | rfl | rfl | rfl
  · exact hf 7 _ rfl
  · exact hf 8 _ rfl
  · exact hf 9 _ rfl
  · exact hf 10 _ rfl
  · exact hf 11 _ rfl
theorem n_nl {args : Array Value} {s : State} (hts : ∀ w ∈ lw_tbl, w.before args s = true) : ∀ q ∈ e_nl, va_Nw (.methodLinkNest q.1 q.2.1 q.2.2.1 q.2.2.2) s := List.forall_mem_cons.mpr ⟨va_Nw.of rfl (hts _ (List.mem_append_right _ (List.mem_append_left _ (List.mem_of_getElem? (i := 38) rfl)))), List.forall_mem_cons.mpr ⟨va_Nw.of rfl (hts _ (List.mem_append_right _ (List.mem_append_left _ (List.mem_of_getElem? (i := 124) rfl)))), List.forall_mem_cons.mpr ⟨va_Nw.of rfl (hts _ (List.mem_append_right _ (List.mem_append_left _ (List.mem_of_getElem? (i := 156) rfl)))), List.forall_mem_cons.mpr ⟨va_Nw.of rfl (hts _ (List.mem_append_right _ (List.mem_append_left _ (List.mem_of_getElem? (i := 174) rfl)))), List.forall_mem_cons.mpr ⟨va_Nw.of rfl (hts _ (List.mem_append_right _ (List.mem_append_right _ (List.mem_append_left _ (List.mem_of_getElem? (i := 51) rfl))))), List.forall_mem_cons.mpr ⟨va_Nw.of rfl (hts _ (List.mem_append_right _ (List.mem_append_left _ (List.mem_of_getElem? (i := 179) rfl)))), List.forall_mem_cons.mpr ⟨va_Nw.of rfl (hts _ (List.mem_append_right _ (List.mem_append_left _ (List.mem_of_getElem? (i := 181) rfl)))), List.forall_mem_cons.mpr ⟨va_Nw.of rfl (hts _ (List.mem_append_right _ (List.mem_append_right _ (List.mem_append_right _ (List.mem_append_left _ (List.mem_of_getElem? (i := 96) rfl)))))), List.forall_mem_cons.mpr ⟨va_Nw.of rfl (hts _ (List.mem_append_right _ (List.mem_append_left _ (List.mem_of_getElem? (i := 82) rfl)))), List.forall_mem_cons.mpr ⟨va_Nw.of rfl (hts _ (List.mem_append_right _ (List.mem_append_right _ (List.mem_append_left _ (List.mem_of_getElem? (i := 98) rfl))))), List.forall_mem_cons.mpr ⟨va_Nw.of rfl (hts _ (List.mem_append_right _ (List.mem_append_right _ (List.mem_append_left _ (List.mem_of_getElem? (i := 72) rfl))))), fun _ h => absurd h List.not_mem_nil⟩⟩⟩⟩⟩⟩⟩⟩⟩⟩⟩
theorem n_al {args : Array Value} {s : State} (hts : ∀ w ∈ lw_tbl, w.before args s = true) : ∀ C ∈ e_al, va_AO C s := List.forall_mem_cons.mpr ⟨va_AO.of (hts _ (List.mem_append_right _ (List.mem_append_left _ (List.mem_of_getElem? (i := 34) rfl)))), List.forall_mem_cons.mpr ⟨va_AO.of (hts _ (List.mem_append_right _ (List.mem_append_left _ (List.mem_of_getElem? (i := 36) rfl)))), List.forall_mem_cons.mpr ⟨va_AO.of (hts _ (List.mem_append_right _ (List.mem_append_left _ (List.mem_of_getElem? (i := 152) rfl)))), List.forall_mem_cons.mpr ⟨va_AO.of (hts _ (List.mem_append_right _ (List.mem_append_left _ (List.mem_of_getElem? (i := 154) rfl)))), List.forall_mem_cons.mpr ⟨va_AO.of (hts _ (List.mem_append_right _ (List.mem_append_left _ (List.mem_of_getElem? (i := 80) rfl)))), fun _ h => absurd h List.not_mem_nil⟩⟩⟩⟩⟩
theorem n_sr {args : Array Value} {s : State} (hts : ∀ w ∈ lw_tbl, w.before args s = true) : ∀ i : Nat, i < 13 → (Cond.stringRef RX5 (e_sl.getD i (0, "")).1 (e_sl.getD i (0, "")).2).before args s = true := by
  intro i hi
  rcases (show i = 0 ∨ i = 1 ∨ i = 2 ∨ i = 3 ∨ i = 4 ∨ i = 5 ∨ i = 6 ∨ i = 7 ∨ i = 8 ∨ i = 9 ∨ i = 10 ∨ i = 11 ∨ i = 12 by omega) with rfl | rfl | rfl | rfl | rfl | rfl | rfl | rfl | rfl | rfl | rfl | rfl | rfl
  · exact hts _ (List.mem_append_right _ (List.mem_append_right _ (List.mem_append_right _ (List.mem_append_left _ (List.mem_of_getElem? (i := 168) rfl)))))
  · exact hts _ (List.mem_append_right _ (List.mem_append_right _ (List.mem_append_right _ (List.mem_append_left _ (List.mem_of_getElem? (i := 169) rfl)))))
  · exact hts _ (List.mem_append_right _ (List.mem_append_right _ (List.mem_append_right _ (List.mem_append_left _ (List.mem_of_getElem? (i := 170) rfl)))))
  · exact hts _ (List.mem_append_right _ (List.mem_append_right _ (List.mem_append_right _ (List.mem_append_left _ (List.mem_of_getElem? (i := 235) rfl)))))
  · exact hts _ (List.mem_append_right _ (List.mem_append_right _ (List.mem_append_right _ (List.mem_append_right _ (List.mem_append_left _ (List.mem_of_getElem? (i := 70) rfl))))))
  · exact hts _ (List.mem_append_right _ (List.mem_append_right _ (List.mem_append_right _ (List.mem_append_right _ (List.mem_append_left _ (List.mem_of_getElem? (i := 71) rfl))))))
  · exact hts _ (List.mem_append_right _ (List.mem_append_right _ (List.mem_append_right _ (List.mem_append_right _ (List.mem_append_left _ (List.mem_of_getElem? (i := 72) rfl))))))
  · exact hts _ (List.mem_append_right _ (List.mem_append_right _ (List.mem_append_right _ (List.mem_append_right _ (List.mem_append_left _ (List.mem_of_getElem? (i := 73) rfl))))))
  · exact hts _ (List.mem_append_right _ (List.mem_append_right _ (List.mem_append_right _ (List.mem_append_right _ (List.mem_append_left _ (List.mem_of_getElem? (i := 77) rfl))))))
  · exact hts _ (List.mem_append_right _ (List.mem_append_right _ (List.mem_append_right _ (List.mem_append_right _ (List.mem_append_left _ (List.mem_of_getElem? (i := 78) rfl))))))
  · exact hts _ (List.mem_append_right _ (List.mem_append_right _ (List.mem_append_right _ (List.mem_append_right _ (List.mem_append_left _ (List.mem_of_getElem? (i := 79) rfl))))))
  · exact hts _ (List.mem_append_right _ (List.mem_append_right _ (List.mem_append_right _ (List.mem_append_right _ (List.mem_append_left _ (List.mem_of_getElem? (i := 80) rfl))))))
  · exact hts _ (List.mem_append_right _ (List.mem_append_right _ (List.mem_append_right _ (List.mem_append_right _ (List.mem_append_left _ (List.mem_of_getElem? (i := 81) rfl))))))
theorem n_arr {args : Array Value} {s : State} {ty : FieldType} (h : (Cond.arrayClass ty).before args s = true) (hp : ∀ C, ty ≠ .object C) : ∃ cA : ClassId, ArrOfT s cA ty ∧ va_RA s cA ty := by
  obtain ⟨c, k, comp, h1, h2, h3⟩ := Cond.arrayClass_spec h
  refine ⟨c, fun N z => ⟨(fun k h => by cases h), k, h2, comp, h3⟩, ?_⟩
  cases ty with
  | object C => exact absurd rfl (hp C)
  | _ => exact h1
theorem n_over {args : Array Value} {s : State} {C : String} (h : (Cond.arrayOver (.object C)).before args s = true) : ∃ cA : ClassId, ArrOfT s cA (.object C) ∧ va_RA s cA (.object C) := by
  obtain ⟨comp, cA, kA, h1, h2, h3, h4, h5⟩ := Cond.arrayOver_spec h
  exact ⟨cA, fun N z => ⟨(fun k h => by cases h), kA, h3, comp, h4⟩, kA, comp, h3, h4, h1, h5⟩
set_option maxHeartbeats 4000000 in
set_option maxRecDepth 100000 in
theorem n_start {p : Program} {s : State} {m : MethodId} {meth : Method} {c : Code} {b L : Nat} {xs : Nat → Int32} (C0 : lw_At p s m meth c b L xs) : ∃ G : e_G, G.2.2.1 = s.heap.size ∧ e_M G p s #[Value.ref b] m meth c cL_law 4 ret RL := by
  obtain ⟨hx, hb, hr, hml, hown, hts, hX, hbl, hlocks, hgv⟩ := C0
  have hf : ∀ (i : Nat) (w : Cond), e_fl[i]? = some w → w.before #[Value.ref b] s = true := fun i w h => flat_of_before _ hgv w (List.mem_of_getElem? h)
  have hw : ∀ w ∈ e_wl, w.before #[Value.ref b] s = true := fun w h => hts w (List.mem_filter.mp h).1
  obtain ⟨c0, i0, k0⟩ := u_known (C := RX0) (T := TX0) (N := 2) (n := 2) hw inX0 (hw _ q_1_37)
  obtain ⟨c1, i1, k1⟩ := u_known (C := RX1) (T := TX1) (N := 3) (n := 3) hw inX1 (hw _ q_4_87)
  obtain ⟨c2, i2, k2⟩ := u_known (C := RX2) (T := TX2) (N := 3) (n := 3) hw inX2 (hw _ q_1_155)
  obtain ⟨c3, i3, k3⟩ := u_known (C := RX3) (T := TX3) (N := 1) (n := 1) hw inX3 (hw _ q_1_81)
  obtain ⟨c4, i4, k4⟩ := u_known (C := RX4) (T := TX4) (N := 4) (n := 4) hw inX4 (hw _ q_1_173)
  obtain ⟨c5, i5, k5⟩ := u_known (C := RX5) (T := TX5) (N := 7) (n := 7) hw inX5 (hw _ q_1_123)
  obtain ⟨c6, i6, k6⟩ := u_known (C := RX6) (T := TX6) (N := 9) (n := 9) hw inX6 (hw _ q_1_74)
  obtain ⟨c7, i7, k7⟩ := u_known (C := RX7) (T := TX7) (N := 6) (n := 6) hw inX7 (hw _ q_1_28)
  obtain ⟨c8, i8, k8⟩ := u_known (C := RX8) (T := TX8) (N := 10) (n := 10) hw inX8 (hw _ q_1_20)
  obtain ⟨c9, i9, k9⟩ := u_known (C := RX9) (T := TX9) (N := 40) (n := 40) hw inX9 (hw _ q_5_5)
  obtain ⟨D, hD⟩ : ∃ D : va_G, ∀ (k : Nat) (q : vw_C), vwCl[k]? = some q → u_Kn s q.1 q.2.1 q.2.2 (D.1 k) (D.2 k) := by
    refine ⟨(fun k => if k = 0 then c0 else if k = 1 then c1 else if k = 2 then c2 else if k = 3 then c3 else if k = 4 then c4 else if k = 5 then c5 else if k = 6 then c6 else if k = 7 then c7 else if k = 8 then c8 else c9, fun k => if k = 0 then i0 else if k = 1 then i1 else if k = 2 then i2 else if k = 3 then i3 else if k = 4 then i4 else if k = 5 then i5 else if k = 6 then i6 else if k = 7 then i7 else if k = 8 then i8 else i9), ?_⟩
    intro k q hq
    match k, hq with
    | 0, hq => cases hq; exact k0
    | 1, hq => cases hq; exact k1
    | 2, hq => cases hq; exact k2
    | 3, hq => cases hq; exact k3
    | 4, hq => cases hq; exact k4
    | 5, hq => cases hq; exact k5
    | 6, hq => cases hq; exact k6
    | 7, hq => cases hq; exact k7
    | 8, hq => cases hq; exact k8
    | 9, hq => cases hq; exact k9
    | k + 10, hq => simp [vwCl] at hq
  obtain ⟨a0, r0, s0⟩ := n_arr (ty := .int) (hw _ q_1_50) (fun C h => by cases h)
  obtain ⟨a1, r1, s1⟩ := n_arr (ty := .long) (hw _ q_1_90) (fun C h => by cases h)
  obtain ⟨a2, r2, s2⟩ := n_arr (ty := .char) (hw _ q_5_132) (fun C h => by cases h)
  obtain ⟨a3, r3, s3⟩ := n_arr (ty := .boolean) (hw _ q_5_131) (fun C h => by cases h)
  obtain ⟨a4, r4, s4⟩ := n_over (C := RX0) (hts _ (List.mem_append_right _ (List.mem_append_left _ (List.mem_of_getElem? (i := 34) rfl))))
  obtain ⟨a5, r5, s5⟩ := n_over (C := RX1) (hts _ (List.mem_append_right _ (List.mem_append_left _ (List.mem_of_getElem? (i := 36) rfl))))
  obtain ⟨a6, r6, s6⟩ := n_over (C := RX2) (hts _ (List.mem_append_right _ (List.mem_append_left _ (List.mem_of_getElem? (i := 152) rfl))))
  obtain ⟨a7, r7, s7⟩ := n_over (C := RX4) (hts _ (List.mem_append_right _ (List.mem_append_left _ (List.mem_of_getElem? (i := 154) rfl))))
  obtain ⟨a8, r8, s8⟩ := n_over (C := RX3) (hts _ (List.mem_append_right _ (List.mem_append_left _ (List.mem_of_getElem? (i := 80) rfl))))
  have hA : ∀ q : Nat, q < s.heap.size → ¬ (fun q : Nat => s.heap.size ≤ q) q := fun q h => Nat.not_le.mpr h
  obtain ⟨tF, hT, hTT⟩ := va_Tof (args := #[Value.ref b]) (tm := .static RX8 "FIRST_OF_X" "[I") (N := 5) (f := fun j => .int (e_fx j)) (A := fun q : Nat => s.heap.size ≤ q) (by decide) (hf 5 _ rfl) (va_eqt (hf 6 _ rfl)) (fun j hj => va_eqt (n_fx hf j hj)) hA
  have hZ := va_Zof (A := fun q : Nat => s.heap.size ≤ q) (hts _ (List.mem_append_right _ (List.mem_append_right _ (List.mem_append_left _ (List.mem_of_getElem? (i := 22) rfl))))) (hts _ (List.mem_append_right _ (List.mem_append_left _ (List.mem_of_getElem? (i := 1) rfl)))) hT hA
  obtain ⟨adK, adV, hS, hR⟩ := vk_Sof (N := 13) (tm := e_tm) (len := e_sn) (byt := e_sb) (A := fun q : Nat => s.heap.size ≤ q) (by decide) (n_ex hf) (n_co hf) (n_ar hf) (n_le hf) (n_el hf) (n_ne hf) hA
  have hZc := va_Zof (A := fun q : Nat => s.heap.size ≤ q) (hts _ (List.mem_append_right _ (List.mem_append_right _ (List.mem_append_right _ (List.mem_append_left _ (List.mem_of_getElem? (i := 184) rfl)))))) (hts _ (List.mem_append_right _ (List.mem_append_left _ (List.mem_of_getElem? (i := 14) rfl)))) (va_eqi (hf 12 _ rfl)) hA
  have hZp := va_Zqof (A := fun q : Nat => s.heap.size ≤ q) (hts _ (List.mem_append_right _ (List.mem_append_right _ (List.mem_append_right _ (List.mem_append_left _ (List.mem_of_getElem? (i := 200) rfl)))))) (hts _ (List.mem_append_right _ (List.mem_append_left _ (List.mem_of_getElem? (i := 16) rfl)))) (hf 13 _ rfl) hA
  refine ⟨(D, (fun k => if k = 0 then a0 else if k = 1 then a1 else if k = 2 then a2 else if k = 3 then a3 else if k = 4 then a4 else if k = 5 then a5 else if k = 6 then a6 else if k = 7 then a7 else a8), s.heap.size, tF, adK, adV), rfl, hx, hb, hr, hml, hown, hw, hlocks, ⟨⟨hD, ?_⟩, n_nl hts, n_al hts, hZ, hTT, hS, ?_, hZc, hZp⟩, Nat.le_refl _⟩
  · intro k q hq
    match k, hq with
    | 0, hq => cases hq; exact ⟨r0, s0⟩
    | 1, hq => cases hq; exact ⟨r1, s1⟩
    | 2, hq => cases hq; exact ⟨r2, s2⟩
    | 3, hq => cases hq; exact ⟨r3, s3⟩
    | 4, hq => cases hq; exact ⟨r4, s4⟩
    | 5, hq => cases hq; exact ⟨r5, s5⟩
    | 6, hq => cases hq; exact ⟨r6, s6⟩
    | 7, hq => cases hq; exact ⟨r7, s7⟩
    | 8, hq => cases hq; exact ⟨r8, s8⟩
    | k + 9, hq => simp [e_tys] at hq
  · intro i q hq
    have hi : i < 13 := (List.getElem?_eq_some_iff.mp hq).1
    have h1 := n_sr hts i hi
    have h2 := hR i hi
    unfold e_tm at h2
    rw [List.getD_eq_getElem?_getD, hq] at h1 h2
    exact vk_R.of h1 h2
set_option maxHeartbeats 4000000 in
/-- the law's body, from its entry, out of its shallow program -/
theorem n_whole {p : Program} {e : Env} {s : State} {m : MethodId} {below : List Frame} {meth : Method} {c : Code} {l : Launch} {b L : Nat} {xs : Nat → Int32} (C0 : lw_At p s m meth c b L xs) (hM : fL_law L xs [] = some true) : W p l e room_1 s m #[Value.ref b] below meth c s.heap [] 0 0 (lw_Z below #[Value.ref b] s) (entryFrame m ([Value.ref b] : List Value).toArray 4) := by
  obtain ⟨G, hz, E⟩ := n_start C0
  obtain ⟨hx, hb, hr, hml, hown, hts, hX, hbl, hlocks, hgv⟩ := C0
  have hbA : ¬ e_A G b := by unfold e_A; omega
  have J : e_J G s [] s.heap [] := ⟨⟨by simp [hz], fun k e h => by simp at h⟩, va_S.rf⟩
  have hl := lv_entry ([.ref b]) (n := 4) (Nat.le_of_ble_eq_true rfl)
  rw [lg_entry_eq]
  exact mL_law E hX hbl hbA hz hM J hl
