/-! rows of the law, of cell and below -/
def k_law_0 : Nat → Option mj_I := fun pc =>
  bif Nat.blt pc 24 then (bif Nat.blt pc 11 then (bif Nat.blt pc 7 then (bif Nat.blt pc 3 then (bif Nat.beq pc 0 then some (.new 9, 3, 8, 44, 43, mj_u) else none) else
     (bif Nat.blt pc 4 then (bif Nat.beq pc 3 then some (.dup, 1, 0, 0, 0, mj_u) else none) else
      (bif Nat.beq pc 4 then some (.invokespecial 11, 3, 0, 0, 45, mj_u) else none))) else
    (bif Nat.blt pc 9 then (bif Nat.blt pc 8 then (bif Nat.beq pc 7 then some (.astore_n 1, 1, 1, 0, 0, mj_u) else none) else
      (bif Nat.beq pc 8 then some (.iconst 2, 1, 0, 0, 0, .int 2) else none)) else
     (bif Nat.blt pc 10 then (bif Nat.beq pc 9 then some (.aload_n 0, 1, 0, 0, 0, mj_u) else none) else
      (bif Nat.beq pc 10 then some (.iconst 0, 1, 0, 0, 0, .int 0) else none)))) else
   (bif Nat.blt pc 20 then (bif Nat.blt pc 16 then (bif Nat.blt pc 14 then (bif Nat.beq pc 11 then some (.invokestatic 12, 3, 106, 0, 765, mj_u) else none) else
      (bif Nat.beq pc 14 then some (.bipush 6, 2, 0, 0, 0, .int 6) else none)) else
     (bif Nat.blt pc 19 then (bif Nat.beq pc 16 then some (.invokestatic 18, 3, 105, 0, 761, mj_u) else none) else
      (bif Nat.beq pc 19 then some (.iadd, 1, 0, 0, 0, mj_u) else none))) else
    (bif Nat.blt pc 22 then (bif Nat.blt pc 21 then (bif Nat.beq pc 20 then some (.istore_n 2, 1, 2, 0, 0, mj_u) else none) else
      (bif Nat.beq pc 21 then some (.iconst 2, 1, 0, 0, 0, .int 2) else none)) else
     (bif Nat.blt pc 23 then (bif Nat.beq pc 22 then some (.aload_n 0, 1, 0, 0, 0, mj_u) else none) else
      (bif Nat.beq pc 23 then some (.iconst 1, 1, 0, 0, 0, .int 1) else none))))) else
  (bif Nat.blt pc 36 then (bif Nat.blt pc 32 then (bif Nat.blt pc 27 then (bif Nat.beq pc 24 then some (.invokestatic 12, 3, 106, 0, 765, mj_u) else none) else
     (bif Nat.blt pc 29 then (bif Nat.beq pc 27 then some (.bipush 6, 2, 0, 0, 0, .int 6) else none) else
      (bif Nat.beq pc 29 then some (.invokestatic 18, 3, 105, 0, 761, mj_u) else none))) else
    (bif Nat.blt pc 34 then (bif Nat.blt pc 33 then (bif Nat.beq pc 32 then some (.iadd, 1, 0, 0, 0, mj_u) else none) else
      (bif Nat.beq pc 33 then some (.istore_n 3, 1, 3, 0, 0, mj_u) else none)) else
     (bif Nat.blt pc 35 then (bif Nat.beq pc 34 then some (.aload_n 1, 1, 1, 0, 0, mj_u) else none) else
      (bif Nat.beq pc 35 then some (.iload_n 2, 1, 2, 0, 0, mj_u) else none)))) else
   (bif Nat.blt pc 42 then (bif Nat.blt pc 40 then (bif Nat.blt pc 37 then (bif Nat.beq pc 36 then some (.iload_n 3, 1, 3, 0, 0, mj_u) else none) else
      (bif Nat.beq pc 37 then some (.invokevirtual 22, 3, 14, 0, 291, mj_u) else none)) else
     (bif Nat.blt pc 41 then (bif Nat.beq pc 40 then some (.iload_n 2, 1, 2, 0, 0, mj_u) else none) else
      (bif Nat.beq pc 41 then some (.iload_n 3, 1, 3, 0, 0, mj_u) else none))) else
    (bif Nat.blt pc 46 then (bif Nat.blt pc 43 then (bif Nat.beq pc 42 then some (.imul, 1, 0, 0, 0, mj_u) else none) else
      (bif Nat.beq pc 43 then some (.if_icmp .eq 5, 3, 48, 0, 0, mj_u) else none)) else
     (bif Nat.blt pc 47 then (bif Nat.beq pc 46 then some (.iconst 0, 1, 0, 0, 0, .int 0) else none) else
      (bif Nat.beq pc 47 then some (.ireturn, 1, 0, 0, 0, mj_u) else none)))))
def k_law_48 : Nat → Option mj_I := fun pc =>
  bif Nat.blt pc 76 then (bif Nat.blt pc 59 then (bif Nat.blt pc 51 then (bif Nat.blt pc 49 then (bif Nat.beq pc 48 then some (.aload_n 1, 1, 1, 0, 0, mj_u) else none) else
     (bif Nat.blt pc 50 then (bif Nat.beq pc 49 then some (.aload_n 0, 1, 0, 0, 0, mj_u) else none) else
      (bif Nat.beq pc 50 then some (.iconst 2, 1, 0, 0, 0, .int 2) else none))) else
    (bif Nat.blt pc 55 then (bif Nat.blt pc 54 then (bif Nat.beq pc 51 then some (.invokestatic 12, 3, 106, 0, 765, mj_u) else none) else
      (bif Nat.beq pc 54 then some (.iload_n 2, 1, 2, 0, 0, mj_u) else none)) else
     (bif Nat.blt pc 58 then (bif Nat.beq pc 55 then some (.invokestatic 18, 3, 105, 0, 761, mj_u) else none) else
      (bif Nat.beq pc 58 then some (.aload_n 0, 1, 0, 0, 0, mj_u) else none)))) else
   (bif Nat.blt pc 67 then (bif Nat.blt pc 63 then (bif Nat.blt pc 60 then (bif Nat.beq pc 59 then some (.iconst 3, 1, 0, 0, 0, .int 3) else none) else
      (bif Nat.beq pc 60 then some (.invokestatic 12, 3, 106, 0, 765, mj_u) else none)) else
     (bif Nat.blt pc 64 then (bif Nat.beq pc 63 then some (.iload_n 3, 1, 3, 0, 0, mj_u) else none) else
      (bif Nat.beq pc 64 then some (.invokestatic 18, 3, 105, 0, 761, mj_u) else none))) else
    (bif Nat.blt pc 72 then (bif Nat.blt pc 69 then (bif Nat.beq pc 67 then some (.bipush 8, 2, 0, 0, 0, .int 8) else none) else
      (bif Nat.beq pc 69 then some (.sipush 500, 3, 0, 0, 0, .int 500) else none)) else
     (bif Nat.blt pc 75 then (bif Nat.beq pc 72 then some (.invokevirtual 25, 3, 23, 0, 411, mj_u) else none) else
      (bif Nat.beq pc 75 then some (.pop, 1, 0, 0, 0, mj_u) else none))))) else
  (bif Nat.blt pc 89 then (bif Nat.blt pc 79 then (bif Nat.blt pc 77 then (bif Nat.beq pc 76 then some (.aload_n 1, 1, 1, 0, 0, mj_u) else none) else
     (bif Nat.blt pc 78 then (bif Nat.beq pc 77 then some (.aload_n 0, 1, 0, 0, 0, mj_u) else none) else
      (bif Nat.beq pc 78 then some (.iconst 4, 1, 0, 0, 0, .int 4) else none))) else
    (bif Nat.blt pc 84 then (bif Nat.blt pc 82 then (bif Nat.beq pc 79 then some (.invokestatic 12, 3, 106, 0, 765, mj_u) else none) else
      (bif Nat.beq pc 82 then some (.bipush 21, 2, 0, 0, 0, .int 21) else none)) else
     (bif Nat.blt pc 87 then (bif Nat.beq pc 84 then some (.invokestatic 18, 3, 105, 0, 761, mj_u) else none) else
      (bif Nat.beq pc 87 then some (.bipush 10, 2, 0, 0, 0, .int 10) else none)))) else
   (bif Nat.blt pc 95 then (bif Nat.blt pc 91 then (bif Nat.blt pc 90 then (bif Nat.beq pc 89 then some (.isub, 1, 0, 0, 0, mj_u) else none) else
      (bif Nat.beq pc 90 then some (.aload_n 0, 1, 0, 0, 0, mj_u) else none)) else
     (bif Nat.blt pc 92 then (bif Nat.beq pc 91 then some (.iconst 5, 1, 0, 0, 0, .int 5) else none) else
      (bif Nat.beq pc 92 then some (.invokestatic 12, 3, 106, 0, 765, mj_u) else none))) else
    (bif Nat.blt pc 100 then (bif Nat.blt pc 97 then (bif Nat.beq pc 95 then some (.bipush 21, 2, 0, 0, 0, .int 21) else none) else
      (bif Nat.beq pc 97 then some (.invokestatic 18, 3, 105, 0, 761, mj_u) else none)) else
     (bif Nat.blt pc 102 then (bif Nat.beq pc 100 then some (.bipush 10, 2, 0, 0, 0, .int 10) else none) else
      (bif Nat.beq pc 102 then some (.isub, 1, 0, 0, 0, mj_u) else none)))))
def k_law_103 : Nat → Option mj_I := fun pc =>
  bif Nat.blt pc 132 then (bif Nat.blt pc 118 then (bif Nat.blt pc 109 then (bif Nat.blt pc 104 then (bif Nat.beq pc 103 then some (.aload_n 0, 1, 0, 0, 0, mj_u) else none) else
     (bif Nat.blt pc 106 then (bif Nat.beq pc 104 then some (.bipush 6, 2, 0, 0, 0, .int 6) else none) else
      (bif Nat.beq pc 106 then some (.invokestatic 12, 3, 106, 0, 765, mj_u) else none))) else
    (bif Nat.blt pc 114 then (bif Nat.blt pc 111 then (bif Nat.beq pc 109 then some (.bipush 12, 2, 0, 0, 0, .int 12) else none) else
      (bif Nat.beq pc 111 then some (.invokestatic 18, 3, 105, 0, 761, mj_u) else none)) else
     (bif Nat.blt pc 117 then (bif Nat.beq pc 114 then some (.invokevirtual 29, 3, 19, 0, 395, mj_u) else none) else
      (bif Nat.beq pc 117 then some (.pop, 1, 0, 0, 0, mj_u) else none)))) else
   (bif Nat.blt pc 125 then (bif Nat.blt pc 121 then (bif Nat.blt pc 119 then (bif Nat.beq pc 118 then some (.iconst 0, 1, 0, 0, 0, .int 0) else none) else
      (bif Nat.beq pc 119 then some (.istore 4, 2, 4, 0, 0, mj_u) else none)) else
     (bif Nat.blt pc 123 then (bif Nat.beq pc 121 then some (.iload 4, 2, 4, 0, 0, mj_u) else none) else
      (bif Nat.beq pc 123 then some (.bipush 8, 2, 0, 0, 0, .int 8) else none))) else
    (bif Nat.blt pc 129 then (bif Nat.blt pc 128 then (bif Nat.beq pc 125 then some (.if_icmp .ge 60, 3, 185, 0, 0, mj_u) else none) else
      (bif Nat.beq pc 128 then some (.aload_n 1, 1, 1, 0, 0, mj_u) else none)) else
     (bif Nat.blt pc 130 then (bif Nat.beq pc 129 then some (.aload_n 0, 1, 0, 0, 0, mj_u) else none) else
      (bif Nat.beq pc 130 then some (.bipush 7, 2, 0, 0, 0, .int 7) else none))))) else
  (bif Nat.blt pc 145 then (bif Nat.blt pc 138 then (bif Nat.blt pc 134 then (bif Nat.beq pc 132 then some (.iload 4, 2, 4, 0, 0, mj_u) else none) else
     (bif Nat.blt pc 135 then (bif Nat.beq pc 134 then some (.iadd, 1, 0, 0, 0, mj_u) else none) else
      (bif Nat.beq pc 135 then some (.invokestatic 12, 3, 106, 0, 765, mj_u) else none))) else
    (bif Nat.blt pc 142 then (bif Nat.blt pc 139 then (bif Nat.beq pc 138 then some (.iload_n 2, 1, 2, 0, 0, mj_u) else none) else
      (bif Nat.beq pc 139 then some (.invokestatic 18, 3, 105, 0, 761, mj_u) else none)) else
     (bif Nat.blt pc 143 then (bif Nat.beq pc 142 then some (.aload_n 0, 1, 0, 0, 0, mj_u) else none) else
      (bif Nat.beq pc 143 then some (.bipush 7, 2, 0, 0, 0, .int 7) else none)))) else
   (bif Nat.blt pc 152 then (bif Nat.blt pc 148 then (bif Nat.blt pc 147 then (bif Nat.beq pc 145 then some (.iload 4, 2, 4, 0, 0, mj_u) else none) else
      (bif Nat.beq pc 147 then some (.iadd, 1, 0, 0, 0, mj_u) else none)) else
     (bif Nat.blt pc 151 then (bif Nat.beq pc 148 then some (.invokestatic 12, 3, 106, 0, 765, mj_u) else none) else
      (bif Nat.beq pc 151 then some (.iconst 3, 1, 0, 0, 0, .int 3) else none))) else
    (bif Nat.blt pc 154 then (bif Nat.blt pc 153 then (bif Nat.beq pc 152 then some (.ishr, 1, 0, 0, 0, mj_u) else none) else
      (bif Nat.beq pc 153 then some (.iload_n 3, 1, 3, 0, 0, mj_u) else none)) else
     (bif Nat.blt pc 157 then (bif Nat.beq pc 154 then some (.invokestatic 18, 3, 105, 0, 761, mj_u) else none) else
      (bif Nat.beq pc 157 then some (.aload_n 0, 1, 0, 0, 0, mj_u) else none)))))
def k_law_158 : Nat → Option mj_I := fun pc =>
  bif Nat.blt pc 188 then (bif Nat.blt pc 172 then (bif Nat.blt pc 163 then (bif Nat.blt pc 160 then (bif Nat.beq pc 158 then some (.bipush 7, 2, 0, 0, 0, .int 7) else none) else
     (bif Nat.blt pc 162 then (bif Nat.beq pc 160 then some (.iload 4, 2, 4, 0, 0, mj_u) else none) else
      (bif Nat.beq pc 162 then some (.iadd, 1, 0, 0, 0, mj_u) else none))) else
    (bif Nat.blt pc 168 then (bif Nat.blt pc 166 then (bif Nat.beq pc 163 then some (.invokestatic 12, 3, 106, 0, 765, mj_u) else none) else
      (bif Nat.beq pc 166 then some (.bipush 6, 2, 0, 0, 0, .int 6) else none)) else
     (bif Nat.blt pc 169 then (bif Nat.beq pc 168 then some (.ishr, 1, 0, 0, 0, mj_u) else none) else
      (bif Nat.beq pc 169 then some (.sipush 1000, 3, 0, 0, 0, .int 1000) else none)))) else
   (bif Nat.blt pc 182 then (bif Nat.blt pc 178 then (bif Nat.blt pc 175 then (bif Nat.beq pc 172 then some (.invokestatic 18, 3, 105, 0, 761, mj_u) else none) else
      (bif Nat.beq pc 175 then some (.invokevirtual 33, 3, 16, 0, 365, mj_u) else none)) else
     (bif Nat.blt pc 179 then (bif Nat.beq pc 178 then some (.pop, 1, 0, 0, 0, mj_u) else none) else
      (bif Nat.beq pc 179 then some (.iinc 4 1, 3, 4, 0, 0, .int 1) else none))) else
    (bif Nat.blt pc 186 then (bif Nat.blt pc 185 then (bif Nat.beq pc 182 then some (.goto (-61), 3, 121, 0, 0, mj_u) else none) else
      (bif Nat.beq pc 185 then some (.aload_n 1, 1, 1, 0, 0, mj_u) else none)) else
     (bif Nat.blt pc 187 then (bif Nat.beq pc 186 then some (.iconst 1, 1, 0, 0, 0, .int 1) else none) else
      (bif Nat.beq pc 187 then some (.aload_n 0, 1, 0, 0, 0, mj_u) else none))))) else
  (bif Nat.blt pc 203 then (bif Nat.blt pc 195 then (bif Nat.blt pc 190 then (bif Nat.beq pc 188 then some (.bipush 8, 2, 0, 0, 0, .int 8) else none) else
     (bif Nat.blt pc 193 then (bif Nat.beq pc 190 then some (.invokestatic 12, 3, 106, 0, 765, mj_u) else none) else
      (bif Nat.beq pc 193 then some (.bipush 8, 2, 0, 0, 0, .int 8) else none))) else
    (bif Nat.blt pc 199 then (bif Nat.blt pc 198 then (bif Nat.beq pc 195 then some (.invokestatic 18, 3, 105, 0, 761, mj_u) else none) else
      (bif Nat.beq pc 198 then some (.iadd, 1, 0, 0, 0, mj_u) else none)) else
     (bif Nat.blt pc 202 then (bif Nat.beq pc 199 then some (.invokevirtual 36, 3, 55, 0, 542, mj_u) else none) else
      (bif Nat.beq pc 202 then some (.pop, 1, 0, 0, 0, mj_u) else none)))) else
   (bif Nat.blt pc 210 then (bif Nat.blt pc 207 then (bif Nat.blt pc 204 then (bif Nat.beq pc 203 then some (.aload_n 1, 1, 1, 0, 0, mj_u) else none) else
      (bif Nat.beq pc 204 then some (.invokevirtual 40, 3, 102, 0, 745, mj_u) else none)) else
     (bif Nat.blt pc 209 then (bif Nat.beq pc 207 then some (.lstore 4, 2, 4, 0, 0, mj_u) else none) else
      (bif Nat.beq pc 209 then some (.iconst 0, 1, 0, 0, 0, .int 0) else none))) else
    (bif Nat.blt pc 213 then (bif Nat.blt pc 212 then (bif Nat.beq pc 210 then some (.istore 6, 2, 6, 0, 0, mj_u) else none) else
      (bif Nat.beq pc 212 then some (.iconst 0, 1, 0, 0, 0, .int 0) else none)) else
     (bif Nat.blt pc 215 then (bif Nat.beq pc 213 then some (.istore 7, 2, 7, 0, 0, mj_u) else none) else
      (bif Nat.beq pc 215 then some (.iconst 0, 1, 0, 0, 0, .int 0) else none)))))
def k_law_216 : Nat → Option mj_I := fun pc =>
  bif Nat.blt pc 242 then (bif Nat.blt pc 227 then (bif Nat.blt pc 221 then (bif Nat.blt pc 218 then (bif Nat.beq pc 216 then some (.istore 8, 2, 8, 0, 0, mj_u) else none) else
     (bif Nat.blt pc 219 then (bif Nat.beq pc 218 then some (.iconst 0, 1, 0, 0, 0, .int 0) else none) else
      (bif Nat.beq pc 219 then some (.istore 9, 2, 9, 0, 0, mj_u) else none))) else
    (bif Nat.blt pc 224 then (bif Nat.blt pc 222 then (bif Nat.beq pc 221 then some (.iconst 0, 1, 0, 0, 0, .int 0) else none) else
      (bif Nat.beq pc 222 then some (.istore 10, 2, 10, 0, 0, mj_u) else none)) else
     (bif Nat.blt pc 225 then (bif Nat.beq pc 224 then some (.iconst 0, 1, 0, 0, 0, .int 0) else none) else
      (bif Nat.beq pc 225 then some (.istore 11, 2, 11, 0, 0, mj_u) else none)))) else
   (bif Nat.blt pc 234 then (bif Nat.blt pc 230 then (bif Nat.blt pc 229 then (bif Nat.beq pc 227 then some (.iload 11, 2, 11, 0, 0, mj_u) else none) else
      (bif Nat.beq pc 229 then some (.iload_n 3, 1, 3, 0, 0, mj_u) else none)) else
     (bif Nat.blt pc 233 then (bif Nat.beq pc 230 then some (.if_icmp .ge 377, 3, 607, 0, 0, mj_u) else none) else
      (bif Nat.beq pc 233 then some (.iconst 0, 1, 0, 0, 0, .int 0) else none))) else
    (bif Nat.blt pc 238 then (bif Nat.blt pc 236 then (bif Nat.beq pc 234 then some (.istore 12, 2, 12, 0, 0, mj_u) else none) else
      (bif Nat.beq pc 236 then some (.iload 12, 2, 12, 0, 0, mj_u) else none)) else
     (bif Nat.blt pc 239 then (bif Nat.beq pc 238 then some (.iload_n 2, 1, 2, 0, 0, mj_u) else none) else
      (bif Nat.beq pc 239 then some (.if_icmp .ge 362, 3, 601, 0, 0, mj_u) else none))))) else
  (bif Nat.blt pc 255 then (bif Nat.blt pc 247 then (bif Nat.blt pc 243 then (bif Nat.beq pc 242 then some (.aload_n 1, 1, 1, 0, 0, mj_u) else none) else
     (bif Nat.blt pc 245 then (bif Nat.beq pc 243 then some (.iload 12, 2, 12, 0, 0, mj_u) else none) else
      (bif Nat.beq pc 245 then some (.iload 11, 2, 11, 0, 0, mj_u) else none))) else
    (bif Nat.blt pc 252 then (bif Nat.blt pc 250 then (bif Nat.beq pc 247 then some (.invokevirtual 44, 3, 60, 0, 563, mj_u) else none) else
      (bif Nat.beq pc 250 then some (.istore 13, 2, 13, 0, 0, mj_u) else none)) else
     (bif Nat.blt pc 253 then (bif Nat.beq pc 252 then some (.aload_n 1, 1, 1, 0, 0, mj_u) else none) else
      (bif Nat.beq pc 253 then some (.iload 12, 2, 12, 0, 0, mj_u) else none)))) else
   (bif Nat.blt pc 263 then (bif Nat.blt pc 260 then (bif Nat.blt pc 257 then (bif Nat.beq pc 255 then some (.iload 11, 2, 11, 0, 0, mj_u) else none) else
      (bif Nat.beq pc 257 then some (.invokevirtual 47, 3, 68, 0, 595, mj_u) else none)) else
     (bif Nat.blt pc 262 then (bif Nat.beq pc 260 then some (.istore 14, 2, 14, 0, 0, mj_u) else none) else
      (bif Nat.beq pc 262 then some (.aload_n 1, 1, 1, 0, 0, mj_u) else none))) else
    (bif Nat.blt pc 267 then (bif Nat.blt pc 265 then (bif Nat.beq pc 263 then some (.iload 12, 2, 12, 0, 0, mj_u) else none) else
      (bif Nat.beq pc 265 then some (.iload 11, 2, 11, 0, 0, mj_u) else none)) else
     (bif Nat.blt pc 268 then (bif Nat.beq pc 267 then some (.iconst 0, 1, 0, 0, 0, .int 0) else none) else
      (bif Nat.beq pc 268 then some (.invokevirtual 50, 3, 61, 0, 567, mj_u) else none)))))
def k_law_271 : Nat → Option mj_I := fun pc =>
  bif Nat.blt pc 299 then (bif Nat.blt pc 284 then (bif Nat.blt pc 276 then (bif Nat.blt pc 273 then (bif Nat.beq pc 271 then some (.istore 15, 2, 15, 0, 0, mj_u) else none) else
     (bif Nat.blt pc 274 then (bif Nat.beq pc 273 then some (.aload_n 1, 1, 1, 0, 0, mj_u) else none) else
      (bif Nat.beq pc 274 then some (.iload 12, 2, 12, 0, 0, mj_u) else none))) else
    (bif Nat.blt pc 279 then (bif Nat.blt pc 278 then (bif Nat.beq pc 276 then some (.iload 11, 2, 11, 0, 0, mj_u) else none) else
      (bif Nat.beq pc 278 then some (.iconst 2, 1, 0, 0, 0, .int 2) else none)) else
     (bif Nat.blt pc 282 then (bif Nat.beq pc 279 then some (.invokevirtual 50, 3, 61, 0, 567, mj_u) else none) else
      (bif Nat.beq pc 282 then some (.istore 16, 2, 16, 0, 0, mj_u) else none)))) else
   (bif Nat.blt pc 294 then (bif Nat.blt pc 289 then (bif Nat.blt pc 286 then (bif Nat.beq pc 284 then some (.iload 12, 2, 12, 0, 0, mj_u) else none) else
      (bif Nat.beq pc 286 then some (.ifCond .eq 24, 3, 310, 0, 0, mj_u) else none)) else
     (bif Nat.blt pc 291 then (bif Nat.beq pc 289 then some (.iload 11, 2, 11, 0, 0, mj_u) else none) else
      (bif Nat.beq pc 291 then some (.ifCond .eq 19, 3, 310, 0, 0, mj_u) else none))) else
    (bif Nat.blt pc 297 then (bif Nat.blt pc 296 then (bif Nat.beq pc 294 then some (.iload 12, 2, 12, 0, 0, mj_u) else none) else
      (bif Nat.beq pc 296 then some (.iload_n 2, 1, 2, 0, 0, mj_u) else none)) else
     (bif Nat.blt pc 298 then (bif Nat.beq pc 297 then some (.iconst 1, 1, 0, 0, 0, .int 1) else none) else
      (bif Nat.beq pc 298 then some (.isub, 1, 0, 0, 0, mj_u) else none))))) else
  (bif Nat.blt pc 311 then (bif Nat.blt pc 305 then (bif Nat.blt pc 302 then (bif Nat.beq pc 299 then some (.if_icmp .eq 11, 3, 310, 0, 0, mj_u) else none) else
     (bif Nat.blt pc 304 then (bif Nat.beq pc 302 then some (.iload 11, 2, 11, 0, 0, mj_u) else none) else
      (bif Nat.beq pc 304 then some (.iload_n 3, 1, 3, 0, 0, mj_u) else none))) else
    (bif Nat.blt pc 307 then (bif Nat.blt pc 306 then (bif Nat.beq pc 305 then some (.iconst 1, 1, 0, 0, 0, .int 1) else none) else
      (bif Nat.beq pc 306 then some (.isub, 1, 0, 0, 0, mj_u) else none)) else
     (bif Nat.blt pc 310 then (bif Nat.beq pc 307 then some (.if_icmp .ne 7, 3, 314, 0, 0, mj_u) else none) else
      (bif Nat.beq pc 310 then some (.iconst 1, 1, 0, 0, 0, .int 1) else none)))) else
   (bif Nat.blt pc 319 then (bif Nat.blt pc 315 then (bif Nat.blt pc 314 then (bif Nat.beq pc 311 then some (.goto 4, 3, 315, 0, 0, mj_u) else none) else
      (bif Nat.beq pc 314 then some (.iconst 0, 1, 0, 0, 0, .int 0) else none)) else
     (bif Nat.blt pc 317 then (bif Nat.beq pc 315 then some (.istore 17, 2, 17, 0, 0, mj_u) else none) else
      (bif Nat.beq pc 317 then some (.iload 14, 2, 14, 0, 0, mj_u) else none))) else
    (bif Nat.blt pc 324 then (bif Nat.blt pc 321 then (bif Nat.beq pc 319 then some (.iload 13, 2, 13, 0, 0, mj_u) else none) else
      (bif Nat.beq pc 321 then some (.if_icmp .lt 123, 3, 444, 0, 0, mj_u) else none)) else
     (bif Nat.blt pc 326 then (bif Nat.beq pc 324 then some (.iload 17, 2, 17, 0, 0, mj_u) else none) else
      (bif Nat.beq pc 326 then some (.ifCond .eq 10, 3, 336, 0, 0, mj_u) else none)))))
def k_law_329 : Nat → Option mj_I := fun pc =>
  bif Nat.blt pc 360 then (bif Nat.blt pc 343 then (bif Nat.blt pc 336 then (bif Nat.blt pc 331 then (bif Nat.beq pc 329 then some (.iload 14, 2, 14, 0, 0, mj_u) else none) else
     (bif Nat.blt pc 333 then (bif Nat.beq pc 331 then some (.iload 13, 2, 13, 0, 0, mj_u) else none) else
      (bif Nat.beq pc 333 then some (.if_icmp .ne 111, 3, 444, 0, 0, mj_u) else none))) else
    (bif Nat.blt pc 339 then (bif Nat.blt pc 338 then (bif Nat.beq pc 336 then some (.iload 13, 2, 13, 0, 0, mj_u) else none) else
      (bif Nat.beq pc 338 then some (.aload_n 1, 1, 1, 0, 0, mj_u) else none)) else
     (bif Nat.blt pc 340 then (bif Nat.beq pc 339 then some (.iconst 2, 1, 0, 0, 0, .int 2) else none) else
      (bif Nat.beq pc 340 then some (.invokevirtual 53, 3, 56, 0, 546, mj_u) else none)))) else
   (bif Nat.blt pc 350 then (bif Nat.blt pc 348 then (bif Nat.blt pc 346 then (bif Nat.beq pc 343 then some (.if_icmp .lt 101, 3, 444, 0, 0, mj_u) else none) else
      (bif Nat.beq pc 346 then some (.iload 13, 2, 13, 0, 0, mj_u) else none)) else
     (bif Nat.blt pc 349 then (bif Nat.beq pc 348 then some (.aload_n 1, 1, 1, 0, 0, mj_u) else none) else
      (bif Nat.beq pc 349 then some (.iconst 3, 1, 0, 0, 0, .int 3) else none))) else
    (bif Nat.blt pc 356 then (bif Nat.blt pc 353 then (bif Nat.beq pc 350 then some (.invokevirtual 53, 3, 56, 0, 546, mj_u) else none) else
      (bif Nat.beq pc 353 then some (.if_icmp .gt 91, 3, 444, 0, 0, mj_u) else none)) else
     (bif Nat.blt pc 358 then (bif Nat.beq pc 356 then some (.iload 15, 2, 15, 0, 0, mj_u) else none) else
      (bif Nat.beq pc 358 then some (.bipush 9, 2, 0, 0, 0, .int 9) else none))))) else
  (bif Nat.blt pc 377 then (bif Nat.blt pc 368 then (bif Nat.blt pc 363 then (bif Nat.beq pc 360 then some (.if_icmp .ne 8, 3, 368, 0, 0, mj_u) else none) else
     (bif Nat.blt pc 365 then (bif Nat.beq pc 363 then some (.iload 17, 2, 17, 0, 0, mj_u) else none) else
      (bif Nat.beq pc 365 then some (.ifCond .ne 79, 3, 444, 0, 0, mj_u) else none))) else
    (bif Nat.blt pc 372 then (bif Nat.blt pc 370 then (bif Nat.beq pc 368 then some (.iload 15, 2, 15, 0, 0, mj_u) else none) else
      (bif Nat.beq pc 370 then some (.bipush 8, 2, 0, 0, 0, .int 8) else none)) else
     (bif Nat.blt pc 375 then (bif Nat.beq pc 372 then some (.if_icmp .ne 8, 3, 380, 0, 0, mj_u) else none) else
      (bif Nat.beq pc 375 then some (.iload 17, 2, 17, 0, 0, mj_u) else none)))) else
   (bif Nat.blt pc 387 then (bif Nat.blt pc 382 then (bif Nat.blt pc 380 then (bif Nat.beq pc 377 then some (.ifCond .eq 67, 3, 444, 0, 0, mj_u) else none) else
      (bif Nat.beq pc 380 then some (.iload 15, 2, 15, 0, 0, mj_u) else none)) else
     (bif Nat.blt pc 384 then (bif Nat.beq pc 382 then some (.bipush 7, 2, 0, 0, 0, .int 7) else none) else
      (bif Nat.beq pc 384 then some (.if_icmp .le 7, 3, 391, 0, 0, mj_u) else none))) else
    (bif Nat.blt pc 391 then (bif Nat.blt pc 388 then (bif Nat.beq pc 387 then some (.iconst 1, 1, 0, 0, 0, .int 1) else none) else
      (bif Nat.beq pc 388 then some (.goto 4, 3, 392, 0, 0, mj_u) else none)) else
     (bif Nat.blt pc 392 then (bif Nat.beq pc 391 then some (.iconst 0, 1, 0, 0, 0, .int 0) else none) else
      (bif Nat.beq pc 392 then some (.aload_n 1, 1, 1, 0, 0, mj_u) else none)))))
def k_law_393 : Nat → Option mj_I := fun pc =>
  bif Nat.blt pc 424 then (bif Nat.blt pc 408 then (bif Nat.blt pc 398 then (bif Nat.blt pc 395 then (bif Nat.beq pc 393 then some (.iload 12, 2, 12, 0, 0, mj_u) else none) else
     (bif Nat.blt pc 397 then (bif Nat.beq pc 395 then some (.iload 11, 2, 11, 0, 0, mj_u) else none) else
      (bif Nat.beq pc 397 then some (.iconst 4, 1, 0, 0, 0, .int 4) else none))) else
    (bif Nat.blt pc 404 then (bif Nat.blt pc 401 then (bif Nat.beq pc 398 then some (.invokevirtual 50, 3, 61, 0, 567, mj_u) else none) else
      (bif Nat.beq pc 401 then some (.ifCond .ne 7, 3, 408, 0, 0, mj_u) else none)) else
     (bif Nat.blt pc 405 then (bif Nat.beq pc 404 then some (.iconst 1, 1, 0, 0, 0, .int 1) else none) else
      (bif Nat.beq pc 405 then some (.goto 4, 3, 409, 0, 0, mj_u) else none)))) else
   (bif Nat.blt pc 416 then (bif Nat.blt pc 412 then (bif Nat.blt pc 409 then (bif Nat.beq pc 408 then some (.iconst 0, 1, 0, 0, 0, .int 0) else none) else
      (bif Nat.beq pc 409 then some (.if_icmp .ne 35, 3, 444, 0, 0, mj_u) else none)) else
     (bif Nat.blt pc 414 then (bif Nat.beq pc 412 then some (.iload 15, 2, 15, 0, 0, mj_u) else none) else
      (bif Nat.beq pc 414 then some (.bipush 7, 2, 0, 0, 0, .int 7) else none))) else
    (bif Nat.blt pc 420 then (bif Nat.blt pc 419 then (bif Nat.beq pc 416 then some (.if_icmp .le 7, 3, 423, 0, 0, mj_u) else none) else
      (bif Nat.beq pc 419 then some (.iconst 1, 1, 0, 0, 0, .int 1) else none)) else
     (bif Nat.blt pc 423 then (bif Nat.beq pc 420 then some (.goto 4, 3, 424, 0, 0, mj_u) else none) else
      (bif Nat.beq pc 423 then some (.iconst 0, 1, 0, 0, 0, .int 0) else none))))) else
  (bif Nat.blt pc 436 then (bif Nat.blt pc 429 then (bif Nat.blt pc 426 then (bif Nat.beq pc 424 then some (.iload 16, 2, 16, 0, 0, mj_u) else none) else
     (bif Nat.blt pc 428 then (bif Nat.beq pc 426 then some (.iload 11, 2, 11, 0, 0, mj_u) else none) else
      (bif Nat.beq pc 428 then some (.iload_n 2, 1, 2, 0, 0, mj_u) else none))) else
    (bif Nat.blt pc 432 then (bif Nat.blt pc 430 then (bif Nat.beq pc 429 then some (.imul, 1, 0, 0, 0, mj_u) else none) else
      (bif Nat.beq pc 430 then some (.iload 12, 2, 12, 0, 0, mj_u) else none)) else
     (bif Nat.blt pc 433 then (bif Nat.beq pc 432 then some (.iadd, 1, 0, 0, 0, mj_u) else none) else
      (bif Nat.beq pc 433 then some (.if_icmp .ne 7, 3, 440, 0, 0, mj_u) else none)))) else
   (bif Nat.blt pc 444 then (bif Nat.blt pc 440 then (bif Nat.blt pc 437 then (bif Nat.beq pc 436 then some (.iconst 1, 1, 0, 0, 0, .int 1) else none) else
      (bif Nat.beq pc 437 then some (.goto 4, 3, 441, 0, 0, mj_u) else none)) else
     (bif Nat.blt pc 441 then (bif Nat.beq pc 440 then some (.iconst 0, 1, 0, 0, 0, .int 0) else none) else
      (bif Nat.beq pc 441 then some (.if_icmp .eq 5, 3, 446, 0, 0, mj_u) else none))) else
    (bif Nat.blt pc 446 then (bif Nat.blt pc 445 then (bif Nat.beq pc 444 then some (.iconst 0, 1, 0, 0, 0, .int 0) else none) else
      (bif Nat.beq pc 445 then some (.ireturn, 1, 0, 0, 0, mj_u) else none)) else
     (bif Nat.blt pc 448 then (bif Nat.beq pc 446 then some (.iload 7, 2, 7, 0, 0, mj_u) else none) else
      (bif Nat.beq pc 448 then some (.iload 14, 2, 14, 0, 0, mj_u) else none)))))
def k_law_450 : Nat → Option mj_I := fun pc =>
  bif Nat.blt pc 478 then (bif Nat.blt pc 463 then (bif Nat.blt pc 454 then (bif Nat.blt pc 452 then (bif Nat.beq pc 450 then some (.iload 13, 2, 13, 0, 0, mj_u) else none) else
     (bif Nat.blt pc 453 then (bif Nat.beq pc 452 then some (.isub, 1, 0, 0, 0, mj_u) else none) else
      (bif Nat.beq pc 453 then some (.iadd, 1, 0, 0, 0, mj_u) else none))) else
    (bif Nat.blt pc 458 then (bif Nat.blt pc 456 then (bif Nat.beq pc 454 then some (.istore 7, 2, 7, 0, 0, mj_u) else none) else
      (bif Nat.beq pc 456 then some (.iload 15, 2, 15, 0, 0, mj_u) else none)) else
     (bif Nat.blt pc 460 then (bif Nat.beq pc 458 then some (.bipush 7, 2, 0, 0, 0, .int 7) else none) else
      (bif Nat.beq pc 460 then some (.if_icmp .le 20, 3, 480, 0, 0, mj_u) else none)))) else
   (bif Nat.blt pc 471 then (bif Nat.blt pc 468 then (bif Nat.blt pc 466 then (bif Nat.beq pc 463 then some (.iinc 8 1, 3, 8, 0, 0, .int 1) else none) else
      (bif Nat.beq pc 466 then some (.iload 6, 2, 6, 0, 0, mj_u) else none)) else
     (bif Nat.blt pc 469 then (bif Nat.beq pc 468 then some (.aload_n 1, 1, 1, 0, 0, mj_u) else none) else
      (bif Nat.beq pc 469 then some (.iload 12, 2, 12, 0, 0, mj_u) else none))) else
    (bif Nat.blt pc 474 then (bif Nat.blt pc 473 then (bif Nat.beq pc 471 then some (.iload 11, 2, 11, 0, 0, mj_u) else none) else
      (bif Nat.beq pc 473 then some (.iconst 1, 1, 0, 0, 0, .int 1) else none)) else
     (bif Nat.blt pc 477 then (bif Nat.beq pc 474 then some (.invokevirtual 50, 3, 61, 0, 567, mj_u) else none) else
      (bif Nat.beq pc 477 then some (.iadd, 1, 0, 0, 0, mj_u) else none))))) else
  (bif Nat.blt pc 493 then (bif Nat.blt pc 484 then (bif Nat.blt pc 480 then (bif Nat.beq pc 478 then some (.istore 6, 2, 6, 0, 0, mj_u) else none) else
     (bif Nat.blt pc 482 then (bif Nat.beq pc 480 then some (.iload 9, 2, 9, 0, 0, mj_u) else none) else
      (bif Nat.beq pc 482 then some (.iload 15, 2, 15, 0, 0, mj_u) else none))) else
    (bif Nat.blt pc 489 then (bif Nat.blt pc 486 then (bif Nat.beq pc 484 then some (.bipush 9, 2, 0, 0, 0, .int 9) else none) else
      (bif Nat.beq pc 486 then some (.if_icmp .ne 7, 3, 493, 0, 0, mj_u) else none)) else
     (bif Nat.blt pc 490 then (bif Nat.beq pc 489 then some (.iconst 1, 1, 0, 0, 0, .int 1) else none) else
      (bif Nat.beq pc 490 then some (.goto 4, 3, 494, 0, 0, mj_u) else none)))) else
   (bif Nat.blt pc 499 then (bif Nat.blt pc 495 then (bif Nat.blt pc 494 then (bif Nat.beq pc 493 then some (.iconst 0, 1, 0, 0, 0, .int 0) else none) else
      (bif Nat.beq pc 494 then some (.iadd, 1, 0, 0, 0, mj_u) else none)) else
     (bif Nat.blt pc 497 then (bif Nat.beq pc 495 then some (.istore 9, 2, 9, 0, 0, mj_u) else none) else
      (bif Nat.beq pc 497 then some (.iload 10, 2, 10, 0, 0, mj_u) else none))) else
    (bif Nat.blt pc 502 then (bif Nat.blt pc 500 then (bif Nat.beq pc 499 then some (.aload_n 1, 1, 1, 0, 0, mj_u) else none) else
      (bif Nat.beq pc 500 then some (.iload 12, 2, 12, 0, 0, mj_u) else none)) else
     (bif Nat.blt pc 504 then (bif Nat.beq pc 502 then some (.iload 11, 2, 11, 0, 0, mj_u) else none) else
      (bif Nat.beq pc 504 then some (.iconst 3, 1, 0, 0, 0, .int 3) else none)))))
def k_law_505 : Nat → Option mj_I := fun pc =>
  bif Nat.blt pc 533 then (bif Nat.blt pc 518 then (bif Nat.blt pc 513 then (bif Nat.blt pc 508 then (bif Nat.beq pc 505 then some (.invokevirtual 50, 3, 61, 0, 567, mj_u) else none) else
     (bif Nat.blt pc 511 then (bif Nat.beq pc 508 then some (.invokestatic 56, 3, 22, 0, 770, mj_u) else none) else
      (bif Nat.beq pc 511 then some (.istore 10, 2, 10, 0, 0, mj_u) else none))) else
    (bif Nat.blt pc 516 then (bif Nat.blt pc 514 then (bif Nat.beq pc 513 then some (.aload_n 1, 1, 1, 0, 0, mj_u) else none) else
      (bif Nat.beq pc 514 then some (.iload 16, 2, 16, 0, 0, mj_u) else none)) else
     (bif Nat.blt pc 517 then (bif Nat.beq pc 516 then some (.iload_n 2, 1, 2, 0, 0, mj_u) else none) else
      (bif Nat.beq pc 517 then some (.irem, 1, 0, 0, 0, mj_u) else none)))) else
   (bif Nat.blt pc 525 then (bif Nat.blt pc 521 then (bif Nat.blt pc 520 then (bif Nat.beq pc 518 then some (.iload 16, 2, 16, 0, 0, mj_u) else none) else
      (bif Nat.beq pc 520 then some (.iload_n 2, 1, 2, 0, 0, mj_u) else none)) else
     (bif Nat.blt pc 522 then (bif Nat.beq pc 521 then some (.idiv, 1, 0, 0, 0, mj_u) else none) else
      (bif Nat.beq pc 522 then some (.invokevirtual 44, 3, 60, 0, 563, mj_u) else none))) else
    (bif Nat.blt pc 530 then (bif Nat.blt pc 527 then (bif Nat.beq pc 525 then some (.iload 13, 2, 13, 0, 0, mj_u) else none) else
      (bif Nat.beq pc 527 then some (.if_icmp .gt 66, 3, 593, 0, 0, mj_u) else none)) else
     (bif Nat.blt pc 531 then (bif Nat.beq pc 530 then some (.aload_n 1, 1, 1, 0, 0, mj_u) else none) else
      (bif Nat.beq pc 531 then some (.iload 16, 2, 16, 0, 0, mj_u) else none))))) else
  (bif Nat.blt pc 543 then (bif Nat.blt pc 537 then (bif Nat.blt pc 534 then (bif Nat.beq pc 533 then some (.iload_n 2, 1, 2, 0, 0, mj_u) else none) else
     (bif Nat.blt pc 535 then (bif Nat.beq pc 534 then some (.irem, 1, 0, 0, 0, mj_u) else none) else
      (bif Nat.beq pc 535 then some (.iload 16, 2, 16, 0, 0, mj_u) else none))) else
    (bif Nat.blt pc 539 then (bif Nat.blt pc 538 then (bif Nat.beq pc 537 then some (.iload_n 2, 1, 2, 0, 0, mj_u) else none) else
      (bif Nat.beq pc 538 then some (.idiv, 1, 0, 0, 0, mj_u) else none)) else
     (bif Nat.blt pc 540 then (bif Nat.beq pc 539 then some (.iconst 0, 1, 0, 0, 0, .int 0) else none) else
      (bif Nat.beq pc 540 then some (.invokevirtual 50, 3, 61, 0, 567, mj_u) else none)))) else
   (bif Nat.blt pc 551 then (bif Nat.blt pc 548 then (bif Nat.blt pc 545 then (bif Nat.beq pc 543 then some (.bipush 8, 2, 0, 0, 0, .int 8) else none) else
      (bif Nat.beq pc 545 then some (.if_icmp .lt 48, 3, 593, 0, 0, mj_u) else none)) else
     (bif Nat.blt pc 549 then (bif Nat.beq pc 548 then some (.aload_n 1, 1, 1, 0, 0, mj_u) else none) else
      (bif Nat.beq pc 549 then some (.iload 12, 2, 12, 0, 0, mj_u) else none))) else
    (bif Nat.blt pc 554 then (bif Nat.blt pc 553 then (bif Nat.beq pc 551 then some (.iload 11, 2, 11, 0, 0, mj_u) else none) else
      (bif Nat.beq pc 553 then some (.iconst 1, 1, 0, 0, 0, .int 1) else none)) else
     (bif Nat.blt pc 557 then (bif Nat.beq pc 554 then some (.invokevirtual 50, 3, 61, 0, 567, mj_u) else none) else
      (bif Nat.beq pc 557 then some (.iconst 1, 1, 0, 0, 0, .int 1) else none)))))
def k_law_558 : Nat → Option mj_I := fun pc =>
  bif Nat.blt pc 589 then (bif Nat.blt pc 573 then (bif Nat.blt pc 564 then (bif Nat.blt pc 561 then (bif Nat.beq pc 558 then some (.if_icmp .lt 35, 3, 593, 0, 0, mj_u) else none) else
     (bif Nat.blt pc 562 then (bif Nat.beq pc 561 then some (.aload_n 1, 1, 1, 0, 0, mj_u) else none) else
      (bif Nat.beq pc 562 then some (.iload 12, 2, 12, 0, 0, mj_u) else none))) else
    (bif Nat.blt pc 567 then (bif Nat.blt pc 566 then (bif Nat.beq pc 564 then some (.iload 11, 2, 11, 0, 0, mj_u) else none) else
      (bif Nat.beq pc 566 then some (.iconst 1, 1, 0, 0, 0, .int 1) else none)) else
     (bif Nat.blt pc 570 then (bif Nat.beq pc 567 then some (.invokevirtual 61, 3, 70, 0, 603, mj_u) else none) else
      (bif Nat.beq pc 570 then some (.ifCond .le 7, 3, 577, 0, 0, mj_u) else none)))) else
   (bif Nat.blt pc 580 then (bif Nat.blt pc 577 then (bif Nat.blt pc 574 then (bif Nat.beq pc 573 then some (.iconst 1, 1, 0, 0, 0, .int 1) else none) else
      (bif Nat.beq pc 574 then some (.goto 4, 3, 578, 0, 0, mj_u) else none)) else
     (bif Nat.blt pc 578 then (bif Nat.beq pc 577 then some (.iconst 0, 1, 0, 0, 0, .int 0) else none) else
      (bif Nat.beq pc 578 then some (.iload 14, 2, 14, 0, 0, mj_u) else none))) else
    (bif Nat.blt pc 585 then (bif Nat.blt pc 582 then (bif Nat.beq pc 580 then some (.iload 13, 2, 13, 0, 0, mj_u) else none) else
      (bif Nat.beq pc 582 then some (.if_icmp .le 7, 3, 589, 0, 0, mj_u) else none)) else
     (bif Nat.blt pc 586 then (bif Nat.beq pc 585 then some (.iconst 1, 1, 0, 0, 0, .int 1) else none) else
      (bif Nat.beq pc 586 then some (.goto 4, 3, 590, 0, 0, mj_u) else none))))) else
  (bif Nat.blt pc 604 then (bif Nat.blt pc 594 then (bif Nat.blt pc 590 then (bif Nat.beq pc 589 then some (.iconst 0, 1, 0, 0, 0, .int 0) else none) else
     (bif Nat.blt pc 593 then (bif Nat.beq pc 590 then some (.if_icmp .eq 5, 3, 595, 0, 0, mj_u) else none) else
      (bif Nat.beq pc 593 then some (.iconst 0, 1, 0, 0, 0, .int 0) else none))) else
    (bif Nat.blt pc 598 then (bif Nat.blt pc 595 then (bif Nat.beq pc 594 then some (.ireturn, 1, 0, 0, 0, mj_u) else none) else
      (bif Nat.beq pc 595 then some (.iinc 12 1, 3, 12, 0, 0, .int 1) else none)) else
     (bif Nat.blt pc 601 then (bif Nat.beq pc 598 then some (.goto (-362), 3, 236, 0, 0, mj_u) else none) else
      (bif Nat.beq pc 601 then some (.iinc 11 1, 3, 11, 0, 0, .int 1) else none)))) else
   (bif Nat.blt pc 611 then (bif Nat.blt pc 609 then (bif Nat.blt pc 607 then (bif Nat.beq pc 604 then some (.goto (-377), 3, 227, 0, 0, mj_u) else none) else
      (bif Nat.beq pc 607 then some (.iload 6, 2, 6, 0, 0, mj_u) else none)) else
     (bif Nat.blt pc 610 then (bif Nat.beq pc 609 then some (.iload_n 2, 1, 2, 0, 0, mj_u) else none) else
      (bif Nat.beq pc 610 then some (.iload_n 3, 1, 3, 0, 0, mj_u) else none))) else
    (bif Nat.blt pc 615 then (bif Nat.blt pc 612 then (bif Nat.beq pc 611 then some (.imul, 1, 0, 0, 0, mj_u) else none) else
      (bif Nat.beq pc 612 then some (.if_icmp .ne 74, 3, 686, 0, 0, mj_u) else none)) else
     (bif Nat.blt pc 616 then (bif Nat.beq pc 615 then some (.aload_n 1, 1, 1, 0, 0, mj_u) else none) else
      (bif Nat.beq pc 616 then some (.invokevirtual 64, 3, 63, 0, 575, mj_u) else none)))))
def k_law_619 : Nat → Option mj_I := fun pc =>
  bif Nat.blt pc 652 then (bif Nat.blt pc 634 then (bif Nat.blt pc 625 then (bif Nat.blt pc 621 then (bif Nat.beq pc 619 then some (.iload 8, 2, 8, 0, 0, mj_u) else none) else
     (bif Nat.blt pc 624 then (bif Nat.beq pc 621 then some (.if_icmp .ne 65, 3, 686, 0, 0, mj_u) else none) else
      (bif Nat.beq pc 624 then some (.aload_n 1, 1, 1, 0, 0, mj_u) else none))) else
    (bif Nat.blt pc 630 then (bif Nat.blt pc 628 then (bif Nat.beq pc 625 then some (.invokevirtual 68, 3, 65, 0, 583, mj_u) else none) else
      (bif Nat.beq pc 628 then some (.iload 9, 2, 9, 0, 0, mj_u) else none)) else
     (bif Nat.blt pc 633 then (bif Nat.beq pc 630 then some (.if_icmp .ne 56, 3, 686, 0, 0, mj_u) else none) else
      (bif Nat.beq pc 633 then some (.aload_n 1, 1, 1, 0, 0, mj_u) else none)))) else
   (bif Nat.blt pc 643 then (bif Nat.blt pc 639 then (bif Nat.blt pc 637 then (bif Nat.beq pc 634 then some (.invokevirtual 71, 3, 66, 0, 587, mj_u) else none) else
      (bif Nat.beq pc 637 then some (.iload 10, 2, 10, 0, 0, mj_u) else none)) else
     (bif Nat.blt pc 642 then (bif Nat.beq pc 639 then some (.if_icmp .ne 47, 3, 686, 0, 0, mj_u) else none) else
      (bif Nat.beq pc 642 then some (.aload_n 1, 1, 1, 0, 0, mj_u) else none))) else
    (bif Nat.blt pc 648 then (bif Nat.blt pc 646 then (bif Nat.beq pc 643 then some (.invokevirtual 74, 3, 74, 0, 620, mj_u) else none) else
      (bif Nat.beq pc 646 then some (.iload 7, 2, 7, 0, 0, mj_u) else none)) else
     (bif Nat.blt pc 651 then (bif Nat.beq pc 648 then some (.if_icmp .ne 38, 3, 686, 0, 0, mj_u) else none) else
      (bif Nat.beq pc 651 then some (.aload_n 1, 1, 1, 0, 0, mj_u) else none))))) else
  (bif Nat.blt pc 665 then (bif Nat.blt pc 657 then (bif Nat.blt pc 655 then (bif Nat.beq pc 652 then some (.invokevirtual 77, 3, 69, 0, 599, mj_u) else none) else
     (bif Nat.blt pc 656 then (bif Nat.beq pc 655 then some (.iload_n 2, 1, 2, 0, 0, mj_u) else none) else
      (bif Nat.beq pc 656 then some (.iload_n 3, 1, 3, 0, 0, mj_u) else none))) else
    (bif Nat.blt pc 661 then (bif Nat.blt pc 658 then (bif Nat.beq pc 657 then some (.imul, 1, 0, 0, 0, mj_u) else none) else
      (bif Nat.beq pc 658 then some (.if_icmp .gt 28, 3, 686, 0, 0, mj_u) else none)) else
     (bif Nat.blt pc 662 then (bif Nat.beq pc 661 then some (.aload_n 1, 1, 1, 0, 0, mj_u) else none) else
      (bif Nat.beq pc 662 then some (.invokevirtual 77, 3, 69, 0, 599, mj_u) else none)))) else
   (bif Nat.blt pc 673 then (bif Nat.blt pc 669 then (bif Nat.blt pc 668 then (bif Nat.beq pc 665 then some (.ifCond .le 7, 3, 672, 0, 0, mj_u) else none) else
      (bif Nat.beq pc 668 then some (.iconst 1, 1, 0, 0, 0, .int 1) else none)) else
     (bif Nat.blt pc 672 then (bif Nat.beq pc 669 then some (.goto 4, 3, 673, 0, 0, mj_u) else none) else
      (bif Nat.beq pc 672 then some (.iconst 0, 1, 0, 0, 0, .int 0) else none))) else
    (bif Nat.blt pc 678 then (bif Nat.blt pc 675 then (bif Nat.beq pc 673 then some (.iload 7, 2, 7, 0, 0, mj_u) else none) else
      (bif Nat.beq pc 675 then some (.ifCond .le 7, 3, 682, 0, 0, mj_u) else none)) else
     (bif Nat.blt pc 679 then (bif Nat.beq pc 678 then some (.iconst 1, 1, 0, 0, 0, .int 1) else none) else
      (bif Nat.beq pc 679 then some (.goto 4, 3, 683, 0, 0, mj_u) else none)))))
def k_law_682 : Nat → Option mj_I := fun pc =>
  bif Nat.blt pc 708 then (bif Nat.blt pc 694 then (bif Nat.blt pc 687 then (bif Nat.blt pc 683 then (bif Nat.beq pc 682 then some (.iconst 0, 1, 0, 0, 0, .int 0) else none) else
     (bif Nat.blt pc 686 then (bif Nat.beq pc 683 then some (.if_icmp .eq 5, 3, 688, 0, 0, mj_u) else none) else
      (bif Nat.beq pc 686 then some (.iconst 0, 1, 0, 0, 0, .int 0) else none))) else
    (bif Nat.blt pc 689 then (bif Nat.blt pc 688 then (bif Nat.beq pc 687 then some (.ireturn, 1, 0, 0, 0, mj_u) else none) else
      (bif Nat.beq pc 688 then some (.aload_n 0, 1, 0, 0, 0, mj_u) else none)) else
     (bif Nat.blt pc 691 then (bif Nat.beq pc 689 then some (.bipush 9, 2, 0, 0, 0, .int 9) else none) else
      (bif Nat.beq pc 691 then some (.invokestatic 12, 3, 106, 0, 765, mj_u) else none)))) else
   (bif Nat.blt pc 701 then (bif Nat.blt pc 698 then (bif Nat.blt pc 695 then (bif Nat.beq pc 694 then some (.iload_n 2, 1, 2, 0, 0, mj_u) else none) else
      (bif Nat.beq pc 695 then some (.invokestatic 18, 3, 105, 0, 761, mj_u) else none)) else
     (bif Nat.blt pc 700 then (bif Nat.beq pc 698 then some (.istore 11, 2, 11, 0, 0, mj_u) else none) else
      (bif Nat.beq pc 700 then some (.aload_n 0, 1, 0, 0, 0, mj_u) else none))) else
    (bif Nat.blt pc 706 then (bif Nat.blt pc 703 then (bif Nat.beq pc 701 then some (.bipush 9, 2, 0, 0, 0, .int 9) else none) else
      (bif Nat.beq pc 703 then some (.invokestatic 12, 3, 106, 0, 765, mj_u) else none)) else
     (bif Nat.blt pc 707 then (bif Nat.beq pc 706 then some (.iconst 4, 1, 0, 0, 0, .int 4) else none) else
      (bif Nat.beq pc 707 then some (.ishr, 1, 0, 0, 0, mj_u) else none))))) else
  (bif Nat.blt pc 721 then (bif Nat.blt pc 714 then (bif Nat.blt pc 709 then (bif Nat.beq pc 708 then some (.iload_n 3, 1, 3, 0, 0, mj_u) else none) else
     (bif Nat.blt pc 712 then (bif Nat.beq pc 709 then some (.invokestatic 18, 3, 105, 0, 761, mj_u) else none) else
      (bif Nat.beq pc 712 then some (.istore 12, 2, 12, 0, 0, mj_u) else none))) else
    (bif Nat.blt pc 717 then (bif Nat.blt pc 715 then (bif Nat.beq pc 714 then some (.aload_n 0, 1, 0, 0, 0, mj_u) else none) else
      (bif Nat.beq pc 715 then some (.bipush 10, 2, 0, 0, 0, .int 10) else none)) else
     (bif Nat.blt pc 720 then (bif Nat.beq pc 717 then some (.invokestatic 12, 3, 106, 0, 765, mj_u) else none) else
      (bif Nat.beq pc 720 then some (.iload_n 2, 1, 2, 0, 0, mj_u) else none)))) else
   (bif Nat.blt pc 729 then (bif Nat.blt pc 726 then (bif Nat.blt pc 724 then (bif Nat.beq pc 721 then some (.invokestatic 18, 3, 105, 0, 761, mj_u) else none) else
      (bif Nat.beq pc 724 then some (.istore 13, 2, 13, 0, 0, mj_u) else none)) else
     (bif Nat.blt pc 727 then (bif Nat.beq pc 726 then some (.aload_n 0, 1, 0, 0, 0, mj_u) else none) else
      (bif Nat.beq pc 727 then some (.bipush 10, 2, 0, 0, 0, .int 10) else none))) else
    (bif Nat.blt pc 733 then (bif Nat.blt pc 732 then (bif Nat.beq pc 729 then some (.invokestatic 12, 3, 106, 0, 765, mj_u) else none) else
      (bif Nat.beq pc 732 then some (.iconst 4, 1, 0, 0, 0, .int 4) else none)) else
     (bif Nat.blt pc 734 then (bif Nat.beq pc 733 then some (.ishr, 1, 0, 0, 0, mj_u) else none) else
      (bif Nat.beq pc 734 then some (.iload_n 3, 1, 3, 0, 0, mj_u) else none)))))
def k_law_735 : Nat → Option mj_I := fun pc =>
  bif Nat.blt pc 766 then (bif Nat.blt pc 748 then (bif Nat.blt pc 741 then (bif Nat.blt pc 738 then (bif Nat.beq pc 735 then some (.invokestatic 18, 3, 105, 0, 761, mj_u) else none) else
     (bif Nat.blt pc 740 then (bif Nat.beq pc 738 then some (.istore 14, 2, 14, 0, 0, mj_u) else none) else
      (bif Nat.beq pc 740 then some (.aload_n 1, 1, 1, 0, 0, mj_u) else none))) else
    (bif Nat.blt pc 745 then (bif Nat.blt pc 743 then (bif Nat.beq pc 741 then some (.iload 11, 2, 11, 0, 0, mj_u) else none) else
      (bif Nat.beq pc 743 then some (.iload 12, 2, 12, 0, 0, mj_u) else none)) else
     (bif Nat.blt pc 746 then (bif Nat.beq pc 745 then some (.aload_n 1, 1, 1, 0, 0, mj_u) else none) else
      (bif Nat.beq pc 746 then some (.iload 11, 2, 11, 0, 0, mj_u) else none)))) else
   (bif Nat.blt pc 758 then (bif Nat.blt pc 753 then (bif Nat.blt pc 750 then (bif Nat.beq pc 748 then some (.iload 12, 2, 12, 0, 0, mj_u) else none) else
      (bif Nat.beq pc 750 then some (.invokevirtual 44, 3, 60, 0, 563, mj_u) else none)) else
     (bif Nat.blt pc 756 then (bif Nat.beq pc 753 then some (.invokevirtual 80, 3, 99, 0, 730, mj_u) else none) else
      (bif Nat.beq pc 756 then some (.iload 7, 2, 7, 0, 0, mj_u) else none))) else
    (bif Nat.blt pc 762 then (bif Nat.blt pc 761 then (bif Nat.beq pc 758 then some (.if_icmp .ne 134, 3, 892, 0, 0, mj_u) else none) else
      (bif Nat.beq pc 761 then some (.aload_n 1, 1, 1, 0, 0, mj_u) else none)) else
     (bif Nat.blt pc 764 then (bif Nat.beq pc 762 then some (.iload 11, 2, 11, 0, 0, mj_u) else none) else
      (bif Nat.beq pc 764 then some (.iload 12, 2, 12, 0, 0, mj_u) else none))))) else
  (bif Nat.blt pc 781 then (bif Nat.blt pc 771 then (bif Nat.blt pc 767 then (bif Nat.beq pc 766 then some (.aload_n 1, 1, 1, 0, 0, mj_u) else none) else
     (bif Nat.blt pc 769 then (bif Nat.beq pc 767 then some (.iload 11, 2, 11, 0, 0, mj_u) else none) else
      (bif Nat.beq pc 769 then some (.iload 12, 2, 12, 0, 0, mj_u) else none))) else
    (bif Nat.blt pc 777 then (bif Nat.blt pc 774 then (bif Nat.beq pc 771 then some (.invokevirtual 44, 3, 60, 0, 563, mj_u) else none) else
      (bif Nat.beq pc 774 then some (.invokevirtual 83, 3, 100, 0, 734, mj_u) else none)) else
     (bif Nat.blt pc 780 then (bif Nat.beq pc 777 then some (.ifCond .ne 115, 3, 892, 0, 0, mj_u) else none) else
      (bif Nat.beq pc 780 then some (.aload_n 1, 1, 1, 0, 0, mj_u) else none)))) else
   (bif Nat.blt pc 789 then (bif Nat.blt pc 785 then (bif Nat.blt pc 783 then (bif Nat.beq pc 781 then some (.iload 11, 2, 11, 0, 0, mj_u) else none) else
      (bif Nat.beq pc 783 then some (.iload 12, 2, 12, 0, 0, mj_u) else none)) else
     (bif Nat.blt pc 787 then (bif Nat.beq pc 785 then some (.iload 13, 2, 13, 0, 0, mj_u) else none) else
      (bif Nat.beq pc 787 then some (.iload 14, 2, 14, 0, 0, mj_u) else none))) else
    (bif Nat.blt pc 793 then (bif Nat.blt pc 792 then (bif Nat.beq pc 789 then some (.invokevirtual 86, 3, 92, 0, 693, mj_u) else none) else
      (bif Nat.beq pc 792 then some (.aload_n 1, 1, 1, 0, 0, mj_u) else none)) else
     (bif Nat.blt pc 795 then (bif Nat.beq pc 793 then some (.iload 13, 2, 13, 0, 0, mj_u) else none) else
      (bif Nat.beq pc 795 then some (.iload 14, 2, 14, 0, 0, mj_u) else none)))))
def k_law_797 : Nat → Option mj_I := fun pc =>
  bif Nat.blt pc 830 then (bif Nat.blt pc 812 then (bif Nat.blt pc 804 then (bif Nat.blt pc 799 then (bif Nat.beq pc 797 then some (.iload 11, 2, 11, 0, 0, mj_u) else none) else
     (bif Nat.blt pc 801 then (bif Nat.beq pc 799 then some (.iload 12, 2, 12, 0, 0, mj_u) else none) else
      (bif Nat.beq pc 801 then some (.invokevirtual 86, 3, 92, 0, 693, mj_u) else none))) else
    (bif Nat.blt pc 808 then (bif Nat.blt pc 807 then (bif Nat.beq pc 804 then some (.if_icmp .ne 88, 3, 892, 0, 0, mj_u) else none) else
      (bif Nat.beq pc 807 then some (.aload_n 1, 1, 1, 0, 0, mj_u) else none)) else
     (bif Nat.blt pc 810 then (bif Nat.beq pc 808 then some (.iload 11, 2, 11, 0, 0, mj_u) else none) else
      (bif Nat.beq pc 810 then some (.iload 12, 2, 12, 0, 0, mj_u) else none)))) else
   (bif Nat.blt pc 822 then (bif Nat.blt pc 816 then (bif Nat.blt pc 814 then (bif Nat.beq pc 812 then some (.iload 11, 2, 11, 0, 0, mj_u) else none) else
      (bif Nat.beq pc 814 then some (.iload 12, 2, 12, 0, 0, mj_u) else none)) else
     (bif Nat.blt pc 819 then (bif Nat.beq pc 816 then some (.invokevirtual 86, 3, 92, 0, 693, mj_u) else none) else
      (bif Nat.beq pc 819 then some (.ifCond .ne 73, 3, 892, 0, 0, mj_u) else none))) else
    (bif Nat.blt pc 825 then (bif Nat.blt pc 823 then (bif Nat.beq pc 822 then some (.aload_n 1, 1, 1, 0, 0, mj_u) else none) else
      (bif Nat.beq pc 823 then some (.iload 11, 2, 11, 0, 0, mj_u) else none)) else
     (bif Nat.blt pc 827 then (bif Nat.beq pc 825 then some (.iload 12, 2, 12, 0, 0, mj_u) else none) else
      (bif Nat.beq pc 827 then some (.sipush 500, 3, 0, 0, 0, .int 500) else none))))) else
  (bif Nat.blt pc 845 then (bif Nat.blt pc 837 then (bif Nat.blt pc 832 then (bif Nat.beq pc 830 then some (.iload 11, 2, 11, 0, 0, mj_u) else none) else
     (bif Nat.blt pc 834 then (bif Nat.beq pc 832 then some (.iload 12, 2, 12, 0, 0, mj_u) else none) else
      (bif Nat.beq pc 834 then some (.invokevirtual 89, 3, 85, 0, 666, mj_u) else none))) else
    (bif Nat.blt pc 841 then (bif Nat.blt pc 840 then (bif Nat.beq pc 837 then some (.ifCond .eq 55, 3, 892, 0, 0, mj_u) else none) else
      (bif Nat.beq pc 840 then some (.aload_n 1, 1, 1, 0, 0, mj_u) else none)) else
     (bif Nat.blt pc 843 then (bif Nat.beq pc 841 then some (.iload 11, 2, 11, 0, 0, mj_u) else none) else
      (bif Nat.beq pc 843 then some (.iload 12, 2, 12, 0, 0, mj_u) else none)))) else
   (bif Nat.blt pc 852 then (bif Nat.blt pc 849 then (bif Nat.blt pc 846 then (bif Nat.beq pc 845 then some (.iconst 0, 1, 0, 0, 0, .int 0) else none) else
      (bif Nat.beq pc 846 then some (.invokevirtual 93, 3, 90, 0, 684, mj_u) else none)) else
     (bif Nat.blt pc 850 then (bif Nat.beq pc 849 then some (.aload_n 1, 1, 1, 0, 0, mj_u) else none) else
      (bif Nat.beq pc 850 then some (.iload 11, 2, 11, 0, 0, mj_u) else none))) else
    (bif Nat.blt pc 857 then (bif Nat.blt pc 854 then (bif Nat.beq pc 852 then some (.iload 12, 2, 12, 0, 0, mj_u) else none) else
      (bif Nat.beq pc 854 then some (.sipush 300, 3, 0, 0, 0, .int 300) else none)) else
     (bif Nat.blt pc 860 then (bif Nat.beq pc 857 then some (.invokevirtual 93, 3, 90, 0, 684, mj_u) else none) else
      (bif Nat.beq pc 860 then some (.if_icmp .gt 32, 3, 892, 0, 0, mj_u) else none)))))
def k_law_863 : Nat → Option mj_I := fun pc =>
  bif Nat.blt pc 893 then (bif Nat.blt pc 876 then (bif Nat.blt pc 867 then (bif Nat.blt pc 864 then (bif Nat.beq pc 863 then some (.aload_n 1, 1, 1, 0, 0, mj_u) else none) else
     (bif Nat.blt pc 865 then (bif Nat.beq pc 864 then some (.aload_n 1, 1, 1, 0, 0, mj_u) else none) else
      (bif Nat.beq pc 865 then some (.iload 12, 2, 12, 0, 0, mj_u) else none))) else
    (bif Nat.blt pc 872 then (bif Nat.blt pc 869 then (bif Nat.beq pc 867 then some (.bipush 50, 2, 0, 0, 0, .int 50) else none) else
      (bif Nat.beq pc 869 then some (.invokevirtual 96, 3, 101, 0, 741, mj_u) else none)) else
     (bif Nat.blt pc 874 then (bif Nat.beq pc 872 then some (.iload 12, 2, 12, 0, 0, mj_u) else none) else
      (bif Nat.beq pc 874 then some (.bipush 50, 2, 0, 0, 0, .int 50) else none)))) else
   (bif Nat.blt pc 884 then (bif Nat.blt pc 880 then (bif Nat.blt pc 879 then (bif Nat.beq pc 876 then some (.invokevirtual 93, 3, 90, 0, 684, mj_u) else none) else
      (bif Nat.beq pc 879 then some (.aload_n 1, 1, 1, 0, 0, mj_u) else none)) else
     (bif Nat.blt pc 882 then (bif Nat.beq pc 880 then some (.iload 11, 2, 11, 0, 0, mj_u) else none) else
      (bif Nat.beq pc 882 then some (.iload 12, 2, 12, 0, 0, mj_u) else none))) else
    (bif Nat.blt pc 889 then (bif Nat.blt pc 886 then (bif Nat.beq pc 884 then some (.bipush 50, 2, 0, 0, 0, .int 50) else none) else
      (bif Nat.beq pc 886 then some (.invokevirtual 93, 3, 90, 0, 684, mj_u) else none)) else
     (bif Nat.blt pc 892 then (bif Nat.beq pc 889 then some (.if_icmp .ge 5, 3, 894, 0, 0, mj_u) else none) else
      (bif Nat.beq pc 892 then some (.iconst 0, 1, 0, 0, 0, .int 0) else none))))) else
  (bif Nat.blt pc 904 then (bif Nat.blt pc 897 then (bif Nat.blt pc 894 then (bif Nat.beq pc 893 then some (.ireturn, 1, 0, 0, 0, mj_u) else none) else
     (bif Nat.blt pc 895 then (bif Nat.beq pc 894 then some (.aload_n 1, 1, 1, 0, 0, mj_u) else none) else
      (bif Nat.beq pc 895 then some (.iload 11, 2, 11, 0, 0, mj_u) else none))) else
    (bif Nat.blt pc 901 then (bif Nat.blt pc 899 then (bif Nat.beq pc 897 then some (.iload 12, 2, 12, 0, 0, mj_u) else none) else
      (bif Nat.beq pc 899 then some (.iload 13, 2, 13, 0, 0, mj_u) else none)) else
     (bif Nat.blt pc 903 then (bif Nat.beq pc 901 then some (.iload 14, 2, 14, 0, 0, mj_u) else none) else
      (bif Nat.beq pc 903 then some (.iconst 0, 1, 0, 0, 0, .int 0) else none)))) else
   (bif Nat.blt pc 913 then (bif Nat.blt pc 909 then (bif Nat.blt pc 907 then (bif Nat.beq pc 904 then some (.invokevirtual 99, 3, 96, 0, 717, mj_u) else none) else
      (bif Nat.beq pc 907 then some (.istore 15, 2, 15, 0, 0, mj_u) else none)) else
     (bif Nat.blt pc 911 then (bif Nat.beq pc 909 then some (.iload 15, 2, 15, 0, 0, mj_u) else none) else
      (bif Nat.beq pc 911 then some (.iload 14, 2, 14, 0, 0, mj_u) else none))) else
    (bif Nat.blt pc 915 then (bif Nat.blt pc 914 then (bif Nat.beq pc 913 then some (.iload_n 2, 1, 2, 0, 0, mj_u) else none) else
      (bif Nat.beq pc 914 then some (.imul, 1, 0, 0, 0, mj_u) else none)) else
     (bif Nat.blt pc 917 then (bif Nat.beq pc 915 then some (.iload 13, 2, 13, 0, 0, mj_u) else none) else
      (bif Nat.beq pc 917 then some (.iadd, 1, 0, 0, 0, mj_u) else none)))))
def k_law_918 : Nat → Option mj_I := fun pc =>
  bif Nat.blt pc 946 then (bif Nat.blt pc 929 then (bif Nat.blt pc 923 then (bif Nat.blt pc 921 then (bif Nat.beq pc 918 then some (.if_icmp .eq 5, 3, 923, 0, 0, mj_u) else none) else
     (bif Nat.blt pc 922 then (bif Nat.beq pc 921 then some (.iconst 0, 1, 0, 0, 0, .int 0) else none) else
      (bif Nat.beq pc 922 then some (.ireturn, 1, 0, 0, 0, mj_u) else none))) else
    (bif Nat.blt pc 926 then (bif Nat.blt pc 924 then (bif Nat.beq pc 923 then some (.iconst 0, 1, 0, 0, 0, .int 0) else none) else
      (bif Nat.beq pc 924 then some (.istore 16, 2, 16, 0, 0, mj_u) else none)) else
     (bif Nat.blt pc 927 then (bif Nat.beq pc 926 then some (.iconst 1, 1, 0, 0, 0, .int 1) else none) else
      (bif Nat.beq pc 927 then some (.istore 17, 2, 17, 0, 0, mj_u) else none)))) else
   (bif Nat.blt pc 936 then (bif Nat.blt pc 932 then (bif Nat.blt pc 930 then (bif Nat.beq pc 929 then some (.aload_n 1, 1, 1, 0, 0, mj_u) else none) else
      (bif Nat.beq pc 930 then some (.iload 11, 2, 11, 0, 0, mj_u) else none)) else
     (bif Nat.blt pc 934 then (bif Nat.beq pc 932 then some (.iload 12, 2, 12, 0, 0, mj_u) else none) else
      (bif Nat.beq pc 934 then some (.iload 13, 2, 13, 0, 0, mj_u) else none))) else
    (bif Nat.blt pc 940 then (bif Nat.blt pc 938 then (bif Nat.beq pc 936 then some (.iload 14, 2, 14, 0, 0, mj_u) else none) else
      (bif Nat.beq pc 938 then some (.iload 17, 2, 17, 0, 0, mj_u) else none)) else
     (bif Nat.blt pc 943 then (bif Nat.beq pc 940 then some (.invokevirtual 99, 3, 96, 0, 717, mj_u) else none) else
      (bif Nat.beq pc 943 then some (.ifCond .lt 129, 3, 1072, 0, 0, mj_u) else none))))) else
  (bif Nat.blt pc 960 then (bif Nat.blt pc 951 then (bif Nat.blt pc 947 then (bif Nat.beq pc 946 then some (.aload_n 1, 1, 1, 0, 0, mj_u) else none) else
     (bif Nat.blt pc 949 then (bif Nat.beq pc 947 then some (.iload 11, 2, 11, 0, 0, mj_u) else none) else
      (bif Nat.beq pc 949 then some (.iload 12, 2, 12, 0, 0, mj_u) else none))) else
    (bif Nat.blt pc 955 then (bif Nat.blt pc 953 then (bif Nat.beq pc 951 then some (.iload 13, 2, 13, 0, 0, mj_u) else none) else
      (bif Nat.beq pc 953 then some (.iload 14, 2, 14, 0, 0, mj_u) else none)) else
     (bif Nat.blt pc 957 then (bif Nat.beq pc 955 then some (.iload 17, 2, 17, 0, 0, mj_u) else none) else
      (bif Nat.beq pc 957 then some (.invokevirtual 99, 3, 96, 0, 717, mj_u) else none)))) else
   (bif Nat.blt pc 966 then (bif Nat.blt pc 964 then (bif Nat.blt pc 962 then (bif Nat.beq pc 960 then some (.istore 18, 2, 18, 0, 0, mj_u) else none) else
      (bif Nat.beq pc 962 then some (.iload 18, 2, 18, 0, 0, mj_u) else none)) else
     (bif Nat.blt pc 965 then (bif Nat.beq pc 964 then some (.iload_n 2, 1, 2, 0, 0, mj_u) else none) else
      (bif Nat.beq pc 965 then some (.irem, 1, 0, 0, 0, mj_u) else none))) else
    (bif Nat.blt pc 969 then (bif Nat.blt pc 968 then (bif Nat.beq pc 966 then some (.iload 15, 2, 15, 0, 0, mj_u) else none) else
      (bif Nat.beq pc 968 then some (.iload_n 2, 1, 2, 0, 0, mj_u) else none)) else
     (bif Nat.blt pc 970 then (bif Nat.beq pc 969 then some (.irem, 1, 0, 0, 0, mj_u) else none) else
      (bif Nat.beq pc 970 then some (.isub, 1, 0, 0, 0, mj_u) else none)))))
def k_law_971 : Nat → Option mj_I := fun pc =>
  bif Nat.blt pc 998 then (bif Nat.blt pc 983 then (bif Nat.blt pc 978 then (bif Nat.blt pc 974 then (bif Nat.beq pc 971 then some (.invokestatic 103, 3, 39, 0, 769, mj_u) else none) else
     (bif Nat.blt pc 976 then (bif Nat.beq pc 974 then some (.istore 19, 2, 19, 0, 0, mj_u) else none) else
      (bif Nat.beq pc 976 then some (.iload 18, 2, 18, 0, 0, mj_u) else none))) else
    (bif Nat.blt pc 980 then (bif Nat.blt pc 979 then (bif Nat.beq pc 978 then some (.iload_n 2, 1, 2, 0, 0, mj_u) else none) else
      (bif Nat.beq pc 979 then some (.idiv, 1, 0, 0, 0, mj_u) else none)) else
     (bif Nat.blt pc 982 then (bif Nat.beq pc 980 then some (.iload 15, 2, 15, 0, 0, mj_u) else none) else
      (bif Nat.beq pc 982 then some (.iload_n 2, 1, 2, 0, 0, mj_u) else none)))) else
   (bif Nat.blt pc 990 then (bif Nat.blt pc 985 then (bif Nat.blt pc 984 then (bif Nat.beq pc 983 then some (.idiv, 1, 0, 0, 0, mj_u) else none) else
      (bif Nat.beq pc 984 then some (.isub, 1, 0, 0, 0, mj_u) else none)) else
     (bif Nat.blt pc 988 then (bif Nat.beq pc 985 then some (.invokestatic 103, 3, 39, 0, 769, mj_u) else none) else
      (bif Nat.beq pc 988 then some (.istore 20, 2, 20, 0, 0, mj_u) else none))) else
    (bif Nat.blt pc 993 then (bif Nat.blt pc 992 then (bif Nat.beq pc 990 then some (.iload 19, 2, 19, 0, 0, mj_u) else none) else
      (bif Nat.beq pc 992 then some (.iconst 1, 1, 0, 0, 0, .int 1) else none)) else
     (bif Nat.blt pc 996 then (bif Nat.beq pc 993 then some (.if_icmp .gt 17, 3, 1010, 0, 0, mj_u) else none) else
      (bif Nat.beq pc 996 then some (.iload 20, 2, 20, 0, 0, mj_u) else none))))) else
  (bif Nat.blt pc 1011 then (bif Nat.blt pc 1004 then (bif Nat.blt pc 999 then (bif Nat.beq pc 998 then some (.iconst 1, 1, 0, 0, 0, .int 1) else none) else
     (bif Nat.blt pc 1002 then (bif Nat.beq pc 999 then some (.if_icmp .gt 11, 3, 1010, 0, 0, mj_u) else none) else
      (bif Nat.beq pc 1002 then some (.iload 19, 2, 19, 0, 0, mj_u) else none))) else
    (bif Nat.blt pc 1007 then (bif Nat.blt pc 1006 then (bif Nat.beq pc 1004 then some (.iload 20, 2, 20, 0, 0, mj_u) else none) else
      (bif Nat.beq pc 1006 then some (.iadd, 1, 0, 0, 0, mj_u) else none)) else
     (bif Nat.blt pc 1010 then (bif Nat.beq pc 1007 then some (.ifCond .ne 5, 3, 1012, 0, 0, mj_u) else none) else
      (bif Nat.beq pc 1010 then some (.iconst 0, 1, 0, 0, 0, .int 0) else none)))) else
   (bif Nat.blt pc 1018 then (bif Nat.blt pc 1014 then (bif Nat.blt pc 1012 then (bif Nat.beq pc 1011 then some (.ireturn, 1, 0, 0, 0, mj_u) else none) else
      (bif Nat.beq pc 1012 then some (.iload 16, 2, 16, 0, 0, mj_u) else none)) else
     (bif Nat.blt pc 1016 then (bif Nat.beq pc 1014 then some (.iload 19, 2, 19, 0, 0, mj_u) else none) else
      (bif Nat.beq pc 1016 then some (.iload 20, 2, 20, 0, 0, mj_u) else none))) else
    (bif Nat.blt pc 1020 then (bif Nat.blt pc 1019 then (bif Nat.beq pc 1018 then some (.iadd, 1, 0, 0, 0, mj_u) else none) else
      (bif Nat.beq pc 1019 then some (.iconst 2, 1, 0, 0, 0, .int 2) else none)) else
     (bif Nat.blt pc 1023 then (bif Nat.beq pc 1020 then some (.if_icmp .ne 8, 3, 1028, 0, 0, mj_u) else none) else
      (bif Nat.beq pc 1023 then some (.bipush 14, 2, 0, 0, 0, .int 14) else none)))))
def k_law_1025 : Nat → Option mj_I := fun pc =>
  bif Nat.blt pc 1049 then (bif Nat.blt pc 1037 then (bif Nat.blt pc 1031 then (bif Nat.blt pc 1028 then (bif Nat.beq pc 1025 then some (.goto 5, 3, 1030, 0, 0, mj_u) else none) else
     (bif Nat.blt pc 1030 then (bif Nat.beq pc 1028 then some (.bipush 10, 2, 0, 0, 0, .int 10) else none) else
      (bif Nat.beq pc 1030 then some (.aload_n 1, 1, 1, 0, 0, mj_u) else none))) else
    (bif Nat.blt pc 1034 then (bif Nat.blt pc 1033 then (bif Nat.beq pc 1031 then some (.iload 18, 2, 18, 0, 0, mj_u) else none) else
      (bif Nat.beq pc 1033 then some (.iload_n 2, 1, 2, 0, 0, mj_u) else none)) else
     (bif Nat.blt pc 1035 then (bif Nat.beq pc 1034 then some (.irem, 1, 0, 0, 0, mj_u) else none) else
      (bif Nat.beq pc 1035 then some (.iload 18, 2, 18, 0, 0, mj_u) else none)))) else
   (bif Nat.blt pc 1043 then (bif Nat.blt pc 1039 then (bif Nat.blt pc 1038 then (bif Nat.beq pc 1037 then some (.iload_n 2, 1, 2, 0, 0, mj_u) else none) else
      (bif Nat.beq pc 1038 then some (.idiv, 1, 0, 0, 0, mj_u) else none)) else
     (bif Nat.blt pc 1042 then (bif Nat.beq pc 1039 then some (.invokevirtual 44, 3, 60, 0, 563, mj_u) else none) else
      (bif Nat.beq pc 1042 then some (.aload_n 1, 1, 1, 0, 0, mj_u) else none))) else
    (bif Nat.blt pc 1046 then (bif Nat.blt pc 1045 then (bif Nat.beq pc 1043 then some (.iload 15, 2, 15, 0, 0, mj_u) else none) else
      (bif Nat.beq pc 1045 then some (.iload_n 2, 1, 2, 0, 0, mj_u) else none)) else
     (bif Nat.blt pc 1047 then (bif Nat.beq pc 1046 then some (.irem, 1, 0, 0, 0, mj_u) else none) else
      (bif Nat.beq pc 1047 then some (.iload 15, 2, 15, 0, 0, mj_u) else none))))) else
  (bif Nat.blt pc 1060 then (bif Nat.blt pc 1054 then (bif Nat.blt pc 1050 then (bif Nat.beq pc 1049 then some (.iload_n 2, 1, 2, 0, 0, mj_u) else none) else
     (bif Nat.blt pc 1051 then (bif Nat.beq pc 1050 then some (.idiv, 1, 0, 0, 0, mj_u) else none) else
      (bif Nat.beq pc 1051 then some (.invokevirtual 44, 3, 60, 0, 563, mj_u) else none))) else
    (bif Nat.blt pc 1058 then (bif Nat.blt pc 1055 then (bif Nat.beq pc 1054 then some (.isub, 1, 0, 0, 0, mj_u) else none) else
      (bif Nat.beq pc 1055 then some (.invokestatic 103, 3, 39, 0, 769, mj_u) else none)) else
     (bif Nat.blt pc 1059 then (bif Nat.beq pc 1058 then some (.iadd, 1, 0, 0, 0, mj_u) else none) else
      (bif Nat.beq pc 1059 then some (.iadd, 1, 0, 0, 0, mj_u) else none)))) else
   (bif Nat.blt pc 1069 then (bif Nat.blt pc 1064 then (bif Nat.blt pc 1062 then (bif Nat.beq pc 1060 then some (.istore 16, 2, 16, 0, 0, mj_u) else none) else
      (bif Nat.beq pc 1062 then some (.iload 18, 2, 18, 0, 0, mj_u) else none)) else
     (bif Nat.blt pc 1066 then (bif Nat.beq pc 1064 then some (.istore 15, 2, 15, 0, 0, mj_u) else none) else
      (bif Nat.beq pc 1066 then some (.iinc 17 1, 3, 17, 0, 0, .int 1) else none))) else
    (bif Nat.blt pc 1074 then (bif Nat.blt pc 1072 then (bif Nat.beq pc 1069 then some (.goto (-140), 3, 929, 0, 0, mj_u) else none) else
      (bif Nat.beq pc 1072 then some (.iload 15, 2, 15, 0, 0, mj_u) else none)) else
     (bif Nat.blt pc 1076 then (bif Nat.beq pc 1074 then some (.iload 12, 2, 12, 0, 0, mj_u) else none) else
      (bif Nat.beq pc 1076 then some (.iload_n 2, 1, 2, 0, 0, mj_u) else none)))))
def k_law_1077 : Nat → Option mj_I := fun pc =>
  bif Nat.blt pc 1104 then (bif Nat.blt pc 1089 then (bif Nat.blt pc 1081 then (bif Nat.blt pc 1078 then (bif Nat.beq pc 1077 then some (.imul, 1, 0, 0, 0, mj_u) else none) else
     (bif Nat.blt pc 1080 then (bif Nat.beq pc 1078 then some (.iload 11, 2, 11, 0, 0, mj_u) else none) else
      (bif Nat.beq pc 1080 then some (.iadd, 1, 0, 0, 0, mj_u) else none))) else
    (bif Nat.blt pc 1086 then (bif Nat.blt pc 1084 then (bif Nat.beq pc 1081 then some (.if_icmp .ne 20, 3, 1101, 0, 0, mj_u) else none) else
      (bif Nat.beq pc 1084 then some (.iload 16, 2, 16, 0, 0, mj_u) else none)) else
     (bif Nat.blt pc 1087 then (bif Nat.beq pc 1086 then some (.aload_n 1, 1, 1, 0, 0, mj_u) else none) else
      (bif Nat.beq pc 1087 then some (.iload 11, 2, 11, 0, 0, mj_u) else none)))) else
   (bif Nat.blt pc 1098 then (bif Nat.blt pc 1093 then (bif Nat.blt pc 1091 then (bif Nat.beq pc 1089 then some (.iload 12, 2, 12, 0, 0, mj_u) else none) else
      (bif Nat.beq pc 1091 then some (.iload 13, 2, 13, 0, 0, mj_u) else none)) else
     (bif Nat.blt pc 1095 then (bif Nat.beq pc 1093 then some (.iload 14, 2, 14, 0, 0, mj_u) else none) else
      (bif Nat.beq pc 1095 then some (.invokevirtual 86, 3, 92, 0, 693, mj_u) else none))) else
    (bif Nat.blt pc 1102 then (bif Nat.blt pc 1101 then (bif Nat.beq pc 1098 then some (.if_icmp .eq 5, 3, 1103, 0, 0, mj_u) else none) else
      (bif Nat.beq pc 1101 then some (.iconst 0, 1, 0, 0, 0, .int 0) else none)) else
     (bif Nat.blt pc 1103 then (bif Nat.beq pc 1102 then some (.ireturn, 1, 0, 0, 0, mj_u) else none) else
      (bif Nat.beq pc 1103 then some (.iconst 0, 1, 0, 0, 0, .int 0) else none))))) else
  (bif Nat.blt pc 1118 then (bif Nat.blt pc 1111 then (bif Nat.blt pc 1106 then (bif Nat.beq pc 1104 then some (.istore 17, 2, 17, 0, 0, mj_u) else none) else
     (bif Nat.blt pc 1108 then (bif Nat.beq pc 1106 then some (.iload 17, 2, 17, 0, 0, mj_u) else none) else
      (bif Nat.beq pc 1108 then some (.sipush 1000, 3, 0, 0, 0, .int 1000) else none))) else
    (bif Nat.blt pc 1115 then (bif Nat.blt pc 1114 then (bif Nat.beq pc 1111 then some (.if_icmp .ge 97, 3, 1208, 0, 0, mj_u) else none) else
      (bif Nat.beq pc 1114 then some (.aload_n 1, 1, 1, 0, 0, mj_u) else none)) else
     (bif Nat.blt pc 1117 then (bif Nat.beq pc 1115 then some (.iload 17, 2, 17, 0, 0, mj_u) else none) else
      (bif Nat.beq pc 1117 then some (.iconst 2, 1, 0, 0, 0, .int 2) else none)))) else
   (bif Nat.blt pc 1125 then (bif Nat.blt pc 1122 then (bif Nat.blt pc 1121 then (bif Nat.beq pc 1118 then some (.invokevirtual 106, 3, 76, 0, 628, mj_u) else none) else
      (bif Nat.beq pc 1121 then some (.aload_n 1, 1, 1, 0, 0, mj_u) else none)) else
     (bif Nat.blt pc 1124 then (bif Nat.beq pc 1122 then some (.iload 17, 2, 17, 0, 0, mj_u) else none) else
      (bif Nat.beq pc 1124 then some (.iconst 1, 1, 0, 0, 0, .int 1) else none))) else
    (bif Nat.blt pc 1131 then (bif Nat.blt pc 1128 then (bif Nat.beq pc 1125 then some (.invokevirtual 106, 3, 76, 0, 628, mj_u) else none) else
      (bif Nat.beq pc 1128 then some (.if_icmp .gt 69, 3, 1197, 0, 0, mj_u) else none)) else
     (bif Nat.blt pc 1132 then (bif Nat.beq pc 1131 then some (.aload_n 1, 1, 1, 0, 0, mj_u) else none) else
      (bif Nat.beq pc 1132 then some (.iload 17, 2, 17, 0, 0, mj_u) else none)))))
def k_law_1134 : Nat → Option mj_I := fun pc =>
  bif Nat.blt pc 1159 then (bif Nat.blt pc 1148 then (bif Nat.blt pc 1139 then (bif Nat.blt pc 1135 then (bif Nat.beq pc 1134 then some (.iconst 1, 1, 0, 0, 0, .int 1) else none) else
     (bif Nat.blt pc 1138 then (bif Nat.beq pc 1135 then some (.invokevirtual 106, 3, 76, 0, 628, mj_u) else none) else
      (bif Nat.beq pc 1138 then some (.aload_n 1, 1, 1, 0, 0, mj_u) else none))) else
    (bif Nat.blt pc 1142 then (bif Nat.blt pc 1141 then (bif Nat.beq pc 1139 then some (.iload 17, 2, 17, 0, 0, mj_u) else none) else
      (bif Nat.beq pc 1141 then some (.iconst 0, 1, 0, 0, 0, .int 0) else none)) else
     (bif Nat.blt pc 1145 then (bif Nat.beq pc 1142 then some (.invokevirtual 106, 3, 76, 0, 628, mj_u) else none) else
      (bif Nat.beq pc 1145 then some (.if_icmp .gt 52, 3, 1197, 0, 0, mj_u) else none)))) else
   (bif Nat.blt pc 1155 then (bif Nat.blt pc 1151 then (bif Nat.blt pc 1149 then (bif Nat.beq pc 1148 then some (.aload_n 1, 1, 1, 0, 0, mj_u) else none) else
      (bif Nat.beq pc 1149 then some (.iload 17, 2, 17, 0, 0, mj_u) else none)) else
     (bif Nat.blt pc 1152 then (bif Nat.beq pc 1151 then some (.iconst 0, 1, 0, 0, 0, .int 0) else none) else
      (bif Nat.beq pc 1152 then some (.invokevirtual 106, 3, 76, 0, 628, mj_u) else none))) else
    (bif Nat.blt pc 1157 then (bif Nat.blt pc 1156 then (bif Nat.beq pc 1155 then some (.iconst 2, 1, 0, 0, 0, .int 2) else none) else
      (bif Nat.beq pc 1156 then some (.iload_n 2, 1, 2, 0, 0, mj_u) else none)) else
     (bif Nat.blt pc 1158 then (bif Nat.beq pc 1157 then some (.iconst 1, 1, 0, 0, 0, .int 1) else none) else
      (bif Nat.beq pc 1158 then some (.isub, 1, 0, 0, 0, mj_u) else none))))) else
  (bif Nat.blt pc 1169 then (bif Nat.blt pc 1162 then (bif Nat.blt pc 1160 then (bif Nat.beq pc 1159 then some (.imul, 1, 0, 0, 0, mj_u) else none) else
     (bif Nat.blt pc 1161 then (bif Nat.beq pc 1160 then some (.iload_n 3, 1, 3, 0, 0, mj_u) else none) else
      (bif Nat.beq pc 1161 then some (.iconst 1, 1, 0, 0, 0, .int 1) else none))) else
    (bif Nat.blt pc 1164 then (bif Nat.blt pc 1163 then (bif Nat.beq pc 1162 then some (.isub, 1, 0, 0, 0, mj_u) else none) else
      (bif Nat.beq pc 1163 then some (.imul, 1, 0, 0, 0, mj_u) else none)) else
     (bif Nat.blt pc 1167 then (bif Nat.beq pc 1164 then some (.if_icmp .gt 33, 3, 1197, 0, 0, mj_u) else none) else
      (bif Nat.beq pc 1167 then some (.iload 17, 2, 17, 0, 0, mj_u) else none)))) else
   (bif Nat.blt pc 1177 then (bif Nat.blt pc 1171 then (bif Nat.blt pc 1170 then (bif Nat.beq pc 1169 then some (.aload_n 1, 1, 1, 0, 0, mj_u) else none) else
      (bif Nat.beq pc 1170 then some (.iconst 3, 1, 0, 0, 0, .int 3) else none)) else
     (bif Nat.blt pc 1174 then (bif Nat.beq pc 1171 then some (.invokevirtual 53, 3, 56, 0, 546, mj_u) else none) else
      (bif Nat.beq pc 1174 then some (.if_icmp .ge 13, 3, 1187, 0, 0, mj_u) else none))) else
    (bif Nat.blt pc 1180 then (bif Nat.blt pc 1179 then (bif Nat.beq pc 1177 then some (.iload 17, 2, 17, 0, 0, mj_u) else none) else
      (bif Nat.beq pc 1179 then some (.aload_n 1, 1, 1, 0, 0, mj_u) else none)) else
     (bif Nat.blt pc 1181 then (bif Nat.beq pc 1180 then some (.iconst 2, 1, 0, 0, 0, .int 2) else none) else
      (bif Nat.beq pc 1181 then some (.invokevirtual 53, 3, 56, 0, 546, mj_u) else none)))))
def k_law_1184 : Nat → Option mj_I := fun pc =>
  bif Nat.blt pc 1219 then (bif Nat.blt pc 1198 then (bif Nat.blt pc 1190 then (bif Nat.blt pc 1187 then (bif Nat.beq pc 1184 then some (.if_icmp .ge 15, 3, 1199, 0, 0, mj_u) else none) else
     (bif Nat.blt pc 1188 then (bif Nat.beq pc 1187 then some (.aload_n 1, 1, 1, 0, 0, mj_u) else none) else
      (bif Nat.beq pc 1188 then some (.iload 17, 2, 17, 0, 0, mj_u) else none))) else
    (bif Nat.blt pc 1194 then (bif Nat.blt pc 1191 then (bif Nat.beq pc 1190 then some (.iconst 0, 1, 0, 0, 0, .int 0) else none) else
      (bif Nat.beq pc 1191 then some (.invokevirtual 106, 3, 76, 0, 628, mj_u) else none)) else
     (bif Nat.blt pc 1197 then (bif Nat.beq pc 1194 then some (.ifCond .eq 5, 3, 1199, 0, 0, mj_u) else none) else
      (bif Nat.beq pc 1197 then some (.iconst 0, 1, 0, 0, 0, .int 0) else none)))) else
   (bif Nat.blt pc 1212 then (bif Nat.blt pc 1208 then (bif Nat.blt pc 1205 then (bif Nat.beq pc 1198 then some (.ireturn, 1, 0, 0, 0, mj_u) else none) else
      (bif Nat.beq pc 1205 then some (.goto (-99), 3, 1106, 0, 0, mj_u) else none)) else
     (bif Nat.blt pc 1209 then (bif Nat.beq pc 1208 then some (.aload_n 1, 1, 1, 0, 0, mj_u) else none) else
      (bif Nat.beq pc 1209 then some (.invokevirtual 40, 3, 102, 0, 745, mj_u) else none))) else
    (bif Nat.blt pc 1215 then (bif Nat.blt pc 1214 then (bif Nat.beq pc 1212 then some (.lload 4, 2, 4, 0, 0, mj_u) else none) else
      (bif Nat.beq pc 1214 then some (.lcmp, 1, 0, 0, 0, mj_u) else none)) else
     (bif Nat.blt pc 1218 then (bif Nat.beq pc 1215 then some (.ifCond .eq 5, 3, 1220, 0, 0, mj_u) else none) else
      (bif Nat.beq pc 1218 then some (.iconst 0, 1, 0, 0, 0, .int 0) else none))))) else
  (bif Nat.blt pc 1229 then (bif Nat.blt pc 1222 then (bif Nat.blt pc 1220 then (bif Nat.beq pc 1219 then some (.ireturn, 1, 0, 0, 0, mj_u) else none) else
     (bif Nat.blt pc 1221 then (bif Nat.beq pc 1220 then some (.aload_n 1, 1, 1, 0, 0, mj_u) else none) else
      (bif Nat.beq pc 1221 then some (.iconst 4, 1, 0, 0, 0, .int 4) else none))) else
    (bif Nat.blt pc 1227 then (bif Nat.blt pc 1225 then (bif Nat.beq pc 1222 then some (.invokevirtual 53, 3, 56, 0, 546, mj_u) else none) else
      (bif Nat.beq pc 1225 then some (.istore 17, 2, 17, 0, 0, mj_u) else none)) else
     (bif Nat.blt pc 1228 then (bif Nat.beq pc 1227 then some (.aload_n 1, 1, 1, 0, 0, mj_u) else none) else
      (bif Nat.beq pc 1228 then some (.iconst 1, 1, 0, 0, 0, .int 1) else none)))) else
   (bif Nat.blt pc 1237 then (bif Nat.blt pc 1232 then (bif Nat.blt pc 1230 then (bif Nat.beq pc 1229 then some (.aload_n 0, 1, 0, 0, 0, mj_u) else none) else
      (bif Nat.beq pc 1230 then some (.bipush 11, 2, 0, 0, 0, .int 11) else none)) else
     (bif Nat.blt pc 1235 then (bif Nat.beq pc 1232 then some (.invokestatic 12, 3, 106, 0, 765, mj_u) else none) else
      (bif Nat.beq pc 1235 then some (.bipush 50, 2, 0, 0, 0, .int 50) else none))) else
    (bif Nat.blt pc 1241 then (bif Nat.blt pc 1240 then (bif Nat.beq pc 1237 then some (.invokestatic 18, 3, 105, 0, 761, mj_u) else none) else
      (bif Nat.beq pc 1240 then some (.iadd, 1, 0, 0, 0, mj_u) else none)) else
     (bif Nat.blt pc 1244 then (bif Nat.beq pc 1241 then some (.invokevirtual 109, 3, 28, 0, 431, mj_u) else none) else
      (bif Nat.beq pc 1244 then some (.istore 18, 2, 18, 0, 0, mj_u) else none)))))
def k_law_1246 : Nat → Option mj_I := fun pc =>
  bif Nat.blt pc 1273 then (bif Nat.blt pc 1260 then (bif Nat.blt pc 1252 then (bif Nat.blt pc 1248 then (bif Nat.beq pc 1246 then some (.iload 18, 2, 18, 0, 0, mj_u) else none) else
     (bif Nat.blt pc 1251 then (bif Nat.beq pc 1248 then some (.ifCond .lt 16, 3, 1264, 0, 0, mj_u) else none) else
      (bif Nat.beq pc 1251 then some (.aload_n 1, 1, 1, 0, 0, mj_u) else none))) else
    (bif Nat.blt pc 1256 then (bif Nat.blt pc 1253 then (bif Nat.beq pc 1252 then some (.iconst 4, 1, 0, 0, 0, .int 4) else none) else
      (bif Nat.beq pc 1253 then some (.invokevirtual 53, 3, 56, 0, 546, mj_u) else none)) else
     (bif Nat.blt pc 1258 then (bif Nat.beq pc 1256 then some (.iload 17, 2, 17, 0, 0, mj_u) else none) else
      (bif Nat.beq pc 1258 then some (.iload 18, 2, 18, 0, 0, mj_u) else none)))) else
   (bif Nat.blt pc 1266 then (bif Nat.blt pc 1264 then (bif Nat.blt pc 1261 then (bif Nat.beq pc 1260 then some (.isub, 1, 0, 0, 0, mj_u) else none) else
      (bif Nat.beq pc 1261 then some (.if_icmp .eq 5, 3, 1266, 0, 0, mj_u) else none)) else
     (bif Nat.blt pc 1265 then (bif Nat.beq pc 1264 then some (.iconst 0, 1, 0, 0, 0, .int 0) else none) else
      (bif Nat.beq pc 1265 then some (.ireturn, 1, 0, 0, 0, mj_u) else none))) else
    (bif Nat.blt pc 1268 then (bif Nat.blt pc 1267 then (bif Nat.beq pc 1266 then some (.aload_n 1, 1, 1, 0, 0, mj_u) else none) else
      (bif Nat.beq pc 1267 then some (.iconst 4, 1, 0, 0, 0, .int 4) else none)) else
     (bif Nat.blt pc 1271 then (bif Nat.beq pc 1268 then some (.invokevirtual 53, 3, 56, 0, 546, mj_u) else none) else
      (bif Nat.beq pc 1271 then some (.istore 17, 2, 17, 0, 0, mj_u) else none))))) else
  (bif Nat.blt pc 1286 then (bif Nat.blt pc 1279 then (bif Nat.blt pc 1274 then (bif Nat.beq pc 1273 then some (.aload_n 1, 1, 1, 0, 0, mj_u) else none) else
     (bif Nat.blt pc 1277 then (bif Nat.beq pc 1274 then some (.invokevirtual 112, 3, 41, 0, 483, mj_u) else none) else
      (bif Nat.beq pc 1277 then some (.istore 19, 2, 19, 0, 0, mj_u) else none))) else
    (bif Nat.blt pc 1281 then (bif Nat.blt pc 1280 then (bif Nat.beq pc 1279 then some (.aload_n 1, 1, 1, 0, 0, mj_u) else none) else
      (bif Nat.beq pc 1280 then some (.iconst 4, 1, 0, 0, 0, .int 4) else none)) else
     (bif Nat.blt pc 1284 then (bif Nat.beq pc 1281 then some (.invokevirtual 53, 3, 56, 0, 546, mj_u) else none) else
      (bif Nat.beq pc 1284 then some (.iload 17, 2, 17, 0, 0, mj_u) else none)))) else
   (bif Nat.blt pc 1293 then (bif Nat.blt pc 1289 then (bif Nat.blt pc 1288 then (bif Nat.beq pc 1286 then some (.iload 19, 2, 19, 0, 0, mj_u) else none) else
      (bif Nat.beq pc 1288 then some (.iadd, 1, 0, 0, 0, mj_u) else none)) else
     (bif Nat.blt pc 1292 then (bif Nat.beq pc 1289 then some (.if_icmp .ne 31, 3, 1320, 0, 0, mj_u) else none) else
      (bif Nat.beq pc 1292 then some (.aload_n 1, 1, 1, 0, 0, mj_u) else none))) else
    (bif Nat.blt pc 1299 then (bif Nat.blt pc 1296 then (bif Nat.beq pc 1293 then some (.invokevirtual 77, 3, 69, 0, 599, mj_u) else none) else
      (bif Nat.beq pc 1296 then some (.ifCond .ne 24, 3, 1320, 0, 0, mj_u) else none)) else
     (bif Nat.blt pc 1300 then (bif Nat.beq pc 1299 then some (.aload_n 1, 1, 1, 0, 0, mj_u) else none) else
      (bif Nat.beq pc 1300 then some (.invokevirtual 74, 3, 74, 0, 620, mj_u) else none)))))
def k_law_1303 : Nat → Option mj_I := fun pc =>
  bif Nat.blt pc 1312 then (bif Nat.blt pc 1307 then (bif Nat.blt pc 1306 then (bif Nat.beq pc 1303 then some (.ifCond .ne 17, 3, 1320, 0, 0, mj_u) else none) else
    (bif Nat.beq pc 1306 then some (.aload_n 1, 1, 1, 0, 0, mj_u) else none)) else
   (bif Nat.blt pc 1310 then (bif Nat.beq pc 1307 then some (.invokevirtual 115, 3, 25, 0, 419, mj_u) else none) else
    (bif Nat.blt pc 1311 then (bif Nat.beq pc 1310 then some (.iload_n 2, 1, 2, 0, 0, mj_u) else none) else
     (bif Nat.beq pc 1311 then some (.iload_n 3, 1, 3, 0, 0, mj_u) else none)))) else
  (bif Nat.blt pc 1317 then (bif Nat.blt pc 1313 then (bif Nat.beq pc 1312 then some (.imul, 1, 0, 0, 0, mj_u) else none) else
    (bif Nat.blt pc 1316 then (bif Nat.beq pc 1313 then some (.if_icmp .gt 7, 3, 1320, 0, 0, mj_u) else none) else
     (bif Nat.beq pc 1316 then some (.iconst 1, 1, 0, 0, 0, .int 1) else none))) else
   (bif Nat.blt pc 1320 then (bif Nat.beq pc 1317 then some (.goto 4, 3, 1321, 0, 0, mj_u) else none) else
    (bif Nat.blt pc 1321 then (bif Nat.beq pc 1320 then some (.iconst 0, 1, 0, 0, 0, .int 0) else none) else
     (bif Nat.beq pc 1321 then some (.ireturn, 1, 0, 0, 0, mj_u) else none))))
def k_law : Nat → Option mj_I := fun pc =>
  bif Nat.blt pc 682 then (bif Nat.blt pc 329 then (bif Nat.blt pc 158 then (bif Nat.blt pc 48 then (k_law_0 pc) else (bif Nat.blt pc 103 then (k_law_48 pc) else (k_law_103 pc))) else (bif Nat.blt pc 216 then (k_law_158 pc) else (bif Nat.blt pc 271 then (k_law_216 pc) else (k_law_271 pc)))) else (bif Nat.blt pc 505 then (bif Nat.blt pc 393 then (k_law_329 pc) else (bif Nat.blt pc 450 then (k_law_393 pc) else (k_law_450 pc))) else (bif Nat.blt pc 558 then (k_law_505 pc) else (bif Nat.blt pc 619 then (k_law_558 pc) else (k_law_619 pc))))) else (bif Nat.blt pc 1025 then (bif Nat.blt pc 863 then (bif Nat.blt pc 735 then (k_law_682 pc) else (bif Nat.blt pc 797 then (k_law_735 pc) else (k_law_797 pc))) else (bif Nat.blt pc 918 then (k_law_863 pc) else (bif Nat.blt pc 971 then (k_law_918 pc) else (k_law_971 pc)))) else (bif Nat.blt pc 1184 then (bif Nat.blt pc 1077 then (k_law_1025 pc) else (bif Nat.blt pc 1134 then (k_law_1077 pc) else (k_law_1134 pc))) else (bif Nat.blt pc 1246 then (k_law_1184 pc) else (bif Nat.blt pc 1303 then (k_law_1246 pc) else (k_law_1303 pc)))))
def m_law : mj_M := (10000, code, 21, (some .boolean), 11, 1, 0, 0, 0, 0, 1322, k_law)
def mj_okP (M : mj_M) (a n : Nat) : Bool := (List.range n).all (fun j => match mj_cd M (a + j) with
  | none => true
  | some i => mj_okI (mM_own M) (mj_ini M) (mM_cc M) (a + j) i && mj_fitL (mM_nl M) i && mj_kat M (a + j) i)
theorem mj_okB_cut {M : mj_M} (l : List (Nat × Nat)) (h : ∀ q ∈ l, mj_okP M q.1 q.2 = true) (hc : (List.range (mM_len M)).all (fun pc => l.any (fun q => Nat.ble q.1 pc && Nat.blt pc (q.1 + q.2))) = true) : mj_okB M = true := by
  have key : ∀ pc, pc < mM_len M → ∀ i, mj_cd M pc = some i → mj_okI (mM_own M) (mj_ini M) (mM_cc M) pc i = true ∧ mj_fitL (mM_nl M) i = true ∧ mj_kat M pc i = true := by
    intro pc hpc i hi
    obtain ⟨q, hq, hq2⟩ := List.any_eq_true.mp (List.all_eq_true.mp hc pc (List.mem_range.mpr hpc))
    simp only [Bool.and_eq_true] at hq2
    have h1 := Nat.le_of_ble_eq_true hq2.1
    have h2 := Nat.blt_eq.mp hq2.2
    have h3 := List.all_eq_true.mp (h q hq) (pc - q.1) (List.mem_range.mpr (by omega))
    rw [show q.1 + (pc - q.1) = pc by omega, hi] at h3
    simp only [Bool.and_eq_true] at h3
    exact ⟨h3.1.1, h3.1.2, h3.2⟩
  simp only [mj_okB, Bool.and_eq_true]
  refine ⟨⟨List.all_eq_true.mpr fun pc hpc => ?_, List.all_eq_true.mpr fun pc hpc => ?_⟩, List.all_eq_true.mpr fun pc hpc => ?_⟩
  · cases hi : mj_cd M pc with
    | none => rfl
    | some i => exact (key pc (List.mem_range.mp hpc) i hi).1
  · cases hi : mj_cd M pc with
    | none => rfl
    | some i => exact (key pc (List.mem_range.mp hpc) i hi).2.1
  · cases hi : mj_cd M pc with
    | none => rfl
    | some i => exact (key pc (List.mem_range.mp hpc) i hi).2.2
theorem ok_law_0 : mj_okP m_law 0 48 = true := by decide +kernel
theorem ok_law_48 : mj_okP m_law 48 55 = true := by decide +kernel
theorem ok_law_103 : mj_okP m_law 103 55 = true := by decide +kernel
theorem ok_law_158 : mj_okP m_law 158 58 = true := by decide +kernel
theorem ok_law_216 : mj_okP m_law 216 55 = true := by decide +kernel
theorem ok_law_271 : mj_okP m_law 271 58 = true := by decide +kernel
theorem ok_law_329 : mj_okP m_law 329 64 = true := by decide +kernel
theorem ok_law_393 : mj_okP m_law 393 57 = true := by decide +kernel
theorem ok_law_450 : mj_okP m_law 450 55 = true := by decide +kernel
theorem ok_law_505 : mj_okP m_law 505 53 = true := by decide +kernel
theorem ok_law_558 : mj_okP m_law 558 61 = true := by decide +kernel
theorem ok_law_619 : mj_okP m_law 619 63 = true := by decide +kernel
theorem ok_law_682 : mj_okP m_law 682 53 = true := by decide +kernel
theorem ok_law_735 : mj_okP m_law 735 62 = true := by decide +kernel
theorem ok_law_797 : mj_okP m_law 797 66 = true := by decide +kernel
theorem ok_law_863 : mj_okP m_law 863 55 = true := by decide +kernel
theorem ok_law_918 : mj_okP m_law 918 53 = true := by decide +kernel
theorem ok_law_971 : mj_okP m_law 971 54 = true := by decide +kernel
theorem ok_law_1025 : mj_okP m_law 1025 52 = true := by decide +kernel
theorem ok_law_1077 : mj_okP m_law 1077 57 = true := by decide +kernel
theorem ok_law_1134 : mj_okP m_law 1134 50 = true := by decide +kernel
theorem ok_law_1184 : mj_okP m_law 1184 62 = true := by decide +kernel
theorem ok_law_1246 : mj_okP m_law 1246 57 = true := by decide +kernel
theorem ok_law_1303 : mj_okP m_law 1303 19 = true := by decide +kernel
theorem ok_law : mj_okB m_law = true := mj_okB_cut [(0, 48), (48, 55), (103, 55), (158, 58), (216, 55), (271, 58), (329, 64), (393, 57), (450, 55), (505, 53), (558, 61), (619, 63), (682, 53), (735, 62), (797, 66), (863, 55), (918, 53), (971, 54), (1025, 52), (1077, 57), (1134, 50), (1184, 62), (1246, 57), (1303, 19)] (fun q hq => by
  simp only [List.mem_cons, List.not_mem_nil, or_false] at hq
  rcases hq with rfl | rfl | rfl | rfl | rfl | rfl | rfl | rfl | rfl | rfl | rfl | rfl | rfl | rfl | rfl | rfl | rfl | rfl | rfl | rfl | rfl | rfl | rfl | rfl
  · exact ok_law_0
  · exact ok_law_48
  · exact ok_law_103
  · exact ok_law_158
  · exact ok_law_216
  · exact ok_law_271
  · exact ok_law_329
  · exact ok_law_393
  · exact ok_law_450
  · exact ok_law_505
  · exact ok_law_558
  · exact ok_law_619
  · exact ok_law_682
  · exact ok_law_735
  · exact ok_law_797
  · exact ok_law_863
  · exact ok_law_918
  · exact ok_law_971
  · exact ok_law_1025
  · exact ok_law_1077
  · exact ok_law_1134
  · exact ok_law_1184
  · exact ok_law_1246
  · exact ok_law_1303) (by decide +kernel)
theorem ok_WatershedMapLaw_below : mj_okA m_WatershedMapLaw_below = true := by decide +kernel
theorem st_WatershedMapLaw_below : lw_tbl[mM_p2 m_WatershedMapLaw_below]? = some (Cond.static (mM_y m_WatershedMapLaw_below)) := by decide +kernel
theorem ok_WatershedMapLaw_cell : mj_okA m_WatershedMapLaw_cell = true := by decide +kernel
theorem st_WatershedMapLaw_cell : lw_tbl[mM_p2 m_WatershedMapLaw_cell]? = some (Cond.static (mM_y m_WatershedMapLaw_cell)) := by decide +kernel
