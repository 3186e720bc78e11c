/-! the reference's register machine: 89 ends, 93 nested, 94 funcs, 95 nexts, 96 registers, 98 slots, 99 told, 100 passed, 101 answered; machine 1 has the frames from 30 on -/
def rR (N n : Nat) (σ : Sg) : Option (Int32 × Sg) := gb 1 2 (gb ((30 + (σ 93 (ix 1))) - 1) 60 (gb (σ 94 (ix ((30 + (σ 93 (ix 1))) - 1))) 12 (gb ((30 + (σ 93 (ix 1))) - 1) 60 (gb ((5 * ((σ 85 (ix (σ 94 (ix ((30 + (σ 93 (ix 1))) - 1))))) + (σ 95 (ix ((30 + (σ 93 (ix 1))) - 1))))) + 1) 10000 (gb ((5 * ((σ 85 (ix (σ 94 (ix ((30 + (σ 93 (ix 1))) - 1))))) + (σ 95 (ix ((30 + (σ 93 (ix 1))) - 1))))) + 2) 10000 (gb ((5 * ((σ 85 (ix (σ 94 (ix ((30 + (σ 93 (ix 1))) - 1))))) + (σ 95 (ix ((30 + (σ 93 (ix 1))) - 1))))) + 3) 10000 (gb ((30 + (σ 93 (ix 1))) - 1) 60 (gb ((30 + (σ 93 (ix 1))) - 1) 60 (gb 1 2 (gb 1 2 (gb (5 * ((σ 85 (ix (σ 94 (ix ((30 + (σ 93 (ix 1))) - 1))))) + (σ 95 (ix ((30 + (σ 93 (ix 1))) - 1))))) 10000 (if (σ 84 (ix (5 * ((σ 85 (ix (σ 94 (ix ((30 + (σ 93 (ix 1))) - 1))))) + (σ 95 (ix ((30 + (σ 93 (ix 1))) - 1))))))) = 0 then (gb ((24 * ((30 + (σ 93 (ix 1))) - 1)) + (σ 84 (ix ((5 * ((σ 85 (ix (σ 94 (ix ((30 + (σ 93 (ix 1))) - 1))))) + (σ 95 (ix ((30 + (σ 93 (ix 1))) - 1))))) + 1)))) 1440 (some (0, sg (sg (sg σ 95 (ix ((30 + (σ 93 (ix 1))) - 1)) ((σ 95 (ix ((30 + (σ 93 (ix 1))) - 1))) + 1)) 91 (ix 1) ((σ 91 (ix 1)) + 1)) 96 (ix ((24 * ((30 + (σ 93 (ix 1))) - 1)) + (σ 84 (ix ((5 * ((σ 85 (ix (σ 94 (ix ((30 + (σ 93 (ix 1))) - 1))))) + (σ 95 (ix ((30 + (σ 93 (ix 1))) - 1))))) + 1))))) (σ 84 (ix ((5 * ((σ 85 (ix (σ 94 (ix ((30 + (σ 93 (ix 1))) - 1))))) + (σ 95 (ix ((30 + (σ 93 (ix 1))) - 1))))) + 2)))))) else (if (σ 84 (ix (5 * ((σ 85 (ix (σ 94 (ix ((30 + (σ 93 (ix 1))) - 1))))) + (σ 95 (ix ((30 + (σ 93 (ix 1))) - 1))))))) = 1 then (gb ((24 * ((30 + (σ 93 (ix 1))) - 1)) + (σ 84 (ix ((5 * ((σ 85 (ix (σ 94 (ix ((30 + (σ 93 (ix 1))) - 1))))) + (σ 95 (ix ((30 + (σ 93 (ix 1))) - 1))))) + 2)))) 1440 (gb ((24 * ((30 + (σ 93 (ix 1))) - 1)) + (σ 84 (ix ((5 * ((σ 85 (ix (σ 94 (ix ((30 + (σ 93 (ix 1))) - 1))))) + (σ 95 (ix ((30 + (σ 93 (ix 1))) - 1))))) + 1)))) 1440 (some (0, sg (sg (sg σ 95 (ix ((30 + (σ 93 (ix 1))) - 1)) ((σ 95 (ix ((30 + (σ 93 (ix 1))) - 1))) + 1)) 91 (ix 1) ((σ 91 (ix 1)) + 1)) 96 (ix ((24 * ((30 + (σ 93 (ix 1))) - 1)) + (σ 84 (ix ((5 * ((σ 85 (ix (σ 94 (ix ((30 + (σ 93 (ix 1))) - 1))))) + (σ 95 (ix ((30 + (σ 93 (ix 1))) - 1))))) + 1))))) (σ 96 (ix ((24 * ((30 + (σ 93 (ix 1))) - 1)) + (σ 84 (ix ((5 * ((σ 85 (ix (σ 94 (ix ((30 + (σ 93 (ix 1))) - 1))))) + (σ 95 (ix ((30 + (σ 93 (ix 1))) - 1))))) + 2)))))))))) else (if (σ 84 (ix (5 * ((σ 85 (ix (σ 94 (ix ((30 + (σ 93 (ix 1))) - 1))))) + (σ 95 (ix ((30 + (σ 93 (ix 1))) - 1))))))) = 2 then (gb ((5 * ((σ 85 (ix (σ 94 (ix ((30 + (σ 93 (ix 1))) - 1))))) + (σ 95 (ix ((30 + (σ 93 (ix 1))) - 1))))) + 4) 10000 (if (σ 84 (ix ((5 * ((σ 85 (ix (σ 94 (ix ((30 + (σ 93 (ix 1))) - 1))))) + (σ 95 (ix ((30 + (σ 93 (ix 1))) - 1))))) + 4))) = 6 then (gb ((24 * ((30 + (σ 93 (ix 1))) - 1)) + (σ 84 (ix ((5 * ((σ 85 (ix (σ 94 (ix ((30 + (σ 93 (ix 1))) - 1))))) + (σ 95 (ix ((30 + (σ 93 (ix 1))) - 1))))) + 3)))) 1440 (if (σ 96 (ix ((24 * ((30 + (σ 93 (ix 1))) - 1)) + (σ 84 (ix ((5 * ((σ 85 (ix (σ 94 (ix ((30 + (σ 93 (ix 1))) - 1))))) + (σ 95 (ix ((30 + (σ 93 (ix 1))) - 1))))) + 3)))))) = 0 then (bd (f_X12_ends N n (sg (sg σ 95 (ix ((30 + (σ 93 (ix 1))) - 1)) ((σ 95 (ix ((30 + (σ 93 (ix 1))) - 1))) + 1)) 91 (ix 1) ((σ 91 (ix 1)) + 1)) 1 2) (fun r39 σ40 => some (0, σ40))) else (gb ((5 * ((σ 85 (ix (σ 94 (ix ((30 + (σ 93 (ix 1))) - 1))))) + (σ 95 (ix ((30 + (σ 93 (ix 1))) - 1))))) + 4) 10000 (gb ((24 * ((30 + (σ 93 (ix 1))) - 1)) + (σ 84 (ix ((5 * ((σ 85 (ix (σ 94 (ix ((30 + (σ 93 (ix 1))) - 1))))) + (σ 95 (ix ((30 + (σ 93 (ix 1))) - 1))))) + 2)))) 1440 (gb ((24 * ((30 + (σ 93 (ix 1))) - 1)) + (σ 84 (ix ((5 * ((σ 85 (ix (σ 94 (ix ((30 + (σ 93 (ix 1))) - 1))))) + (σ 95 (ix ((30 + (σ 93 (ix 1))) - 1))))) + 3)))) 1440 (bd (f_X12_works N n (sg (sg σ 95 (ix ((30 + (σ 93 (ix 1))) - 1)) ((σ 95 (ix ((30 + (σ 93 (ix 1))) - 1))) + 1)) 91 (ix 1) ((σ 91 (ix 1)) + 1)) (σ 84 (ix ((5 * ((σ 85 (ix (σ 94 (ix ((30 + (σ 93 (ix 1))) - 1))))) + (σ 95 (ix ((30 + (σ 93 (ix 1))) - 1))))) + 4))) (σ 96 (ix ((24 * ((30 + (σ 93 (ix 1))) - 1)) + (σ 84 (ix ((5 * ((σ 85 (ix (σ 94 (ix ((30 + (σ 93 (ix 1))) - 1))))) + (σ 95 (ix ((30 + (σ 93 (ix 1))) - 1))))) + 2)))))) (σ 96 (ix ((24 * ((30 + (σ 93 (ix 1))) - 1)) + (σ 84 (ix ((5 * ((σ 85 (ix (σ 94 (ix ((30 + (σ 93 (ix 1))) - 1))))) + (σ 95 (ix ((30 + (σ 93 (ix 1))) - 1))))) + 3))))))) (fun r35 σ36 => gb ((24 * ((30 + (σ 93 (ix 1))) - 1)) + (σ 84 (ix ((5 * ((σ 85 (ix (σ 94 (ix ((30 + (σ 93 (ix 1))) - 1))))) + (σ 95 (ix ((30 + (σ 93 (ix 1))) - 1))))) + 1)))) 1440 (some (0, sg σ36 96 (ix ((24 * ((30 + (σ 93 (ix 1))) - 1)) + (σ 84 (ix ((5 * ((σ 85 (ix (σ 94 (ix ((30 + (σ 93 (ix 1))) - 1))))) + (σ 95 (ix ((30 + (σ 93 (ix 1))) - 1))))) + 1))))) r35))))))))) else (gb ((5 * ((σ 85 (ix (σ 94 (ix ((30 + (σ 93 (ix 1))) - 1))))) + (σ 95 (ix ((30 + (σ 93 (ix 1))) - 1))))) + 4) 10000 (gb ((24 * ((30 + (σ 93 (ix 1))) - 1)) + (σ 84 (ix ((5 * ((σ 85 (ix (σ 94 (ix ((30 + (σ 93 (ix 1))) - 1))))) + (σ 95 (ix ((30 + (σ 93 (ix 1))) - 1))))) + 2)))) 1440 (gb ((24 * ((30 + (σ 93 (ix 1))) - 1)) + (σ 84 (ix ((5 * ((σ 85 (ix (σ 94 (ix ((30 + (σ 93 (ix 1))) - 1))))) + (σ 95 (ix ((30 + (σ 93 (ix 1))) - 1))))) + 3)))) 1440 (bd (f_X12_works N n (sg (sg σ 95 (ix ((30 + (σ 93 (ix 1))) - 1)) ((σ 95 (ix ((30 + (σ 93 (ix 1))) - 1))) + 1)) 91 (ix 1) ((σ 91 (ix 1)) + 1)) (σ 84 (ix ((5 * ((σ 85 (ix (σ 94 (ix ((30 + (σ 93 (ix 1))) - 1))))) + (σ 95 (ix ((30 + (σ 93 (ix 1))) - 1))))) + 4))) (σ 96 (ix ((24 * ((30 + (σ 93 (ix 1))) - 1)) + (σ 84 (ix ((5 * ((σ 85 (ix (σ 94 (ix ((30 + (σ 93 (ix 1))) - 1))))) + (σ 95 (ix ((30 + (σ 93 (ix 1))) - 1))))) + 2)))))) (σ 96 (ix ((24 * ((30 + (σ 93 (ix 1))) - 1)) + (σ 84 (ix ((5 * ((σ 85 (ix (σ 94 (ix ((30 + (σ 93 (ix 1))) - 1))))) + (σ 95 (ix ((30 + (σ 93 (ix 1))) - 1))))) + 3))))))) (fun r26 σ27 => gb ((24 * ((30 + (σ 93 (ix 1))) - 1)) + (σ 84 (ix ((5 * ((σ 85 (ix (σ 94 (ix ((30 + (σ 93 (ix 1))) - 1))))) + (σ 95 (ix ((30 + (σ 93 (ix 1))) - 1))))) + 1)))) 1440 (some (0, sg σ27 96 (ix ((24 * ((30 + (σ 93 (ix 1))) - 1)) + (σ 84 (ix ((5 * ((σ 85 (ix (σ 94 (ix ((30 + (σ 93 (ix 1))) - 1))))) + (σ 95 (ix ((30 + (σ 93 (ix 1))) - 1))))) + 1))))) r26))))))))) else (if (σ 84 (ix (5 * ((σ 85 (ix (σ 94 (ix ((30 + (σ 93 (ix 1))) - 1))))) + (σ 95 (ix ((30 + (σ 93 (ix 1))) - 1))))))) = 3 then (gb ((24 * ((30 + (σ 93 (ix 1))) - 1)) + (σ 84 (ix ((5 * ((σ 85 (ix (σ 94 (ix ((30 + (σ 93 (ix 1))) - 1))))) + (σ 95 (ix ((30 + (σ 93 (ix 1))) - 1))))) + 1)))) 1440 (gb ((24 * ((30 + (σ 93 (ix 1))) - 1)) + (σ 84 (ix ((5 * ((σ 85 (ix (σ 94 (ix ((30 + (σ 93 (ix 1))) - 1))))) + (σ 95 (ix ((30 + (σ 93 (ix 1))) - 1))))) + 2)))) 1440 (gb ((24 * ((30 + (σ 93 (ix 1))) - 1)) + (σ 84 (ix ((5 * ((σ 85 (ix (σ 94 (ix ((30 + (σ 93 (ix 1))) - 1))))) + (σ 95 (ix ((30 + (σ 93 (ix 1))) - 1))))) + 1)))) 1440 (gb ((24 * ((30 + (σ 93 (ix 1))) - 1)) + (σ 84 (ix ((5 * ((σ 85 (ix (σ 94 (ix ((30 + (σ 93 (ix 1))) - 1))))) + (σ 95 (ix ((30 + (σ 93 (ix 1))) - 1))))) + 2)))) 1440 (some (0, sg (sg (sg (sg σ 95 (ix ((30 + (σ 93 (ix 1))) - 1)) ((σ 95 (ix ((30 + (σ 93 (ix 1))) - 1))) + 1)) 91 (ix 1) ((σ 91 (ix 1)) + 1)) 96 (ix ((24 * ((30 + (σ 93 (ix 1))) - 1)) + (σ 84 (ix ((5 * ((σ 85 (ix (σ 94 (ix ((30 + (σ 93 (ix 1))) - 1))))) + (σ 95 (ix ((30 + (σ 93 (ix 1))) - 1))))) + 1))))) (σ 96 (ix ((24 * ((30 + (σ 93 (ix 1))) - 1)) + (σ 84 (ix ((5 * ((σ 85 (ix (σ 94 (ix ((30 + (σ 93 (ix 1))) - 1))))) + (σ 95 (ix ((30 + (σ 93 (ix 1))) - 1))))) + 2))))))) 96 (ix ((24 * ((30 + (σ 93 (ix 1))) - 1)) + (σ 84 (ix ((5 * ((σ 85 (ix (σ 94 (ix ((30 + (σ 93 (ix 1))) - 1))))) + (σ 95 (ix ((30 + (σ 93 (ix 1))) - 1))))) + 2))))) (σ 96 (ix ((24 * ((30 + (σ 93 (ix 1))) - 1)) + (σ 84 (ix ((5 * ((σ 85 (ix (σ 94 (ix ((30 + (σ 93 (ix 1))) - 1))))) + (σ 95 (ix ((30 + (σ 93 (ix 1))) - 1))))) + 1)))))))))))) else (if (σ 84 (ix (5 * ((σ 85 (ix (σ 94 (ix ((30 + (σ 93 (ix 1))) - 1))))) + (σ 95 (ix ((30 + (σ 93 (ix 1))) - 1))))))) = 4 then (gb ((30 + (σ 93 (ix 1))) - 1) 60 (some (0, sg (sg (sg σ 95 (ix ((30 + (σ 93 (ix 1))) - 1)) ((σ 95 (ix ((30 + (σ 93 (ix 1))) - 1))) + 1)) 91 (ix 1) ((σ 91 (ix 1)) + 1)) 95 (ix ((30 + (σ 93 (ix 1))) - 1)) (σ 84 (ix ((5 * ((σ 85 (ix (σ 94 (ix ((30 + (σ 93 (ix 1))) - 1))))) + (σ 95 (ix ((30 + (σ 93 (ix 1))) - 1))))) + 1)))))) else (if (σ 84 (ix (5 * ((σ 85 (ix (σ 94 (ix ((30 + (σ 93 (ix 1))) - 1))))) + (σ 95 (ix ((30 + (σ 93 (ix 1))) - 1))))))) = 5 then (gb ((24 * ((30 + (σ 93 (ix 1))) - 1)) + (σ 84 (ix ((5 * ((σ 85 (ix (σ 94 (ix ((30 + (σ 93 (ix 1))) - 1))))) + (σ 95 (ix ((30 + (σ 93 (ix 1))) - 1))))) + 1)))) 1440 (if (σ 96 (ix ((24 * ((30 + (σ 93 (ix 1))) - 1)) + (σ 84 (ix ((5 * ((σ 85 (ix (σ 94 (ix ((30 + (σ 93 (ix 1))) - 1))))) + (σ 95 (ix ((30 + (σ 93 (ix 1))) - 1))))) + 1)))))) = 0 then (gb ((30 + (σ 93 (ix 1))) - 1) 60 (some (0, sg (sg (sg σ 95 (ix ((30 + (σ 93 (ix 1))) - 1)) ((σ 95 (ix ((30 + (σ 93 (ix 1))) - 1))) + 1)) 91 (ix 1) ((σ 91 (ix 1)) + 1)) 95 (ix ((30 + (σ 93 (ix 1))) - 1)) (σ 84 (ix ((5 * ((σ 85 (ix (σ 94 (ix ((30 + (σ 93 (ix 1))) - 1))))) + (σ 95 (ix ((30 + (σ 93 (ix 1))) - 1))))) + 2)))))) else (gb ((30 + (σ 93 (ix 1))) - 1) 60 (gb ((30 + (σ 93 (ix 1))) - 1) 60 (some (0, sg (sg (sg σ 95 (ix ((30 + (σ 93 (ix 1))) - 1)) ((σ 95 (ix ((30 + (σ 93 (ix 1))) - 1))) + 1)) 91 (ix 1) ((σ 91 (ix 1)) + 1)) 95 (ix ((30 + (σ 93 (ix 1))) - 1)) ((σ 95 (ix ((30 + (σ 93 (ix 1))) - 1))) + 1))))))) else (if (σ 84 (ix (5 * ((σ 85 (ix (σ 94 (ix ((30 + (σ 93 (ix 1))) - 1))))) + (σ 95 (ix ((30 + (σ 93 (ix 1))) - 1))))))) = 6 then (gb ((24 * ((30 + (σ 93 (ix 1))) - 1)) + (σ 84 (ix ((5 * ((σ 85 (ix (σ 94 (ix ((30 + (σ 93 (ix 1))) - 1))))) + (σ 95 (ix ((30 + (σ 93 (ix 1))) - 1))))) + 1)))) 1440 (bd (f_X12_over N n (sg (sg σ 95 (ix ((30 + (σ 93 (ix 1))) - 1)) ((σ 95 (ix ((30 + (σ 93 (ix 1))) - 1))) + 1)) 91 (ix 1) ((σ 91 (ix 1)) + 1)) 1 (σ 96 (ix ((24 * ((30 + (σ 93 (ix 1))) - 1)) + (σ 84 (ix ((5 * ((σ 85 (ix (σ 94 (ix ((30 + (σ 93 (ix 1))) - 1))))) + (σ 95 (ix ((30 + (σ 93 (ix 1))) - 1))))) + 1))))))) (fun r57 σ58 => some (0, σ58)))) else (if (σ 84 (ix (5 * ((σ 85 (ix (σ 94 (ix ((30 + (σ 93 (ix 1))) - 1))))) + (σ 95 (ix ((30 + (σ 93 (ix 1))) - 1))))))) = 7 then (gb ((24 * ((30 + (σ 93 (ix 1))) - 1)) + (σ 84 (ix ((5 * ((σ 85 (ix (σ 94 (ix ((30 + (σ 93 (ix 1))) - 1))))) + (σ 95 (ix ((30 + (σ 93 (ix 1))) - 1))))) + 2)))) 1440 (bd (f_X12_isCell N n (sg (sg σ 95 (ix ((30 + (σ 93 (ix 1))) - 1)) ((σ 95 (ix ((30 + (σ 93 (ix 1))) - 1))) + 1)) 91 (ix 1) ((σ 91 (ix 1)) + 1)) (σ 96 (ix ((24 * ((30 + (σ 93 (ix 1))) - 1)) + (σ 84 (ix ((5 * ((σ 85 (ix (σ 94 (ix ((30 + (σ 93 (ix 1))) - 1))))) + (σ 95 (ix ((30 + (σ 93 (ix 1))) - 1))))) + 2))))))) (fun r62 σ63 => if r62 = 0 then (bd (f_X12_ends N n σ63 1 3) (fun r69 σ70 => some (0, σ70))) else (gb ((24 * ((30 + (σ 93 (ix 1))) - 1)) + (σ 84 (ix ((5 * ((σ 85 (ix (σ 94 (ix ((30 + (σ 93 (ix 1))) - 1))))) + (σ 95 (ix ((30 + (σ 93 (ix 1))) - 1))))) + 2)))) 1440 (gb (64 + (σ63 96 (ix ((24 * ((30 + (σ 93 (ix 1))) - 1)) + (σ 84 (ix ((5 * ((σ 85 (ix (σ 94 (ix ((30 + (σ 93 (ix 1))) - 1))))) + (σ 95 (ix ((30 + (σ 93 (ix 1))) - 1))))) + 2))))))) 128 (gb ((24 * ((30 + (σ 93 (ix 1))) - 1)) + (σ 84 (ix ((5 * ((σ 85 (ix (σ 94 (ix ((30 + (σ 93 (ix 1))) - 1))))) + (σ 95 (ix ((30 + (σ 93 (ix 1))) - 1))))) + 1)))) 1440 (some (0, sg σ63 96 (ix ((24 * ((30 + (σ 93 (ix 1))) - 1)) + (σ 84 (ix ((5 * ((σ 85 (ix (σ 94 (ix ((30 + (σ 93 (ix 1))) - 1))))) + (σ 95 (ix ((30 + (σ 93 (ix 1))) - 1))))) + 1))))) (σ63 88 (ix (64 + (σ63 96 (ix ((24 * ((30 + (σ 93 (ix 1))) - 1)) + (σ 84 (ix ((5 * ((σ 85 (ix (σ 94 (ix ((30 + (σ 93 (ix 1))) - 1))))) + (σ 95 (ix ((30 + (σ 93 (ix 1))) - 1))))) + 2))))))))))))))))) else (if (σ 84 (ix (5 * ((σ 85 (ix (σ 94 (ix ((30 + (σ 93 (ix 1))) - 1))))) + (σ 95 (ix ((30 + (σ 93 (ix 1))) - 1))))))) = 8 then (gb ((24 * ((30 + (σ 93 (ix 1))) - 1)) + (σ 84 (ix ((5 * ((σ 85 (ix (σ 94 (ix ((30 + (σ 93 (ix 1))) - 1))))) + (σ 95 (ix ((30 + (σ 93 (ix 1))) - 1))))) + 1)))) 1440 (bd (f_X12_isCell N n (sg (sg σ 95 (ix ((30 + (σ 93 (ix 1))) - 1)) ((σ 95 (ix ((30 + (σ 93 (ix 1))) - 1))) + 1)) 91 (ix 1) ((σ 91 (ix 1)) + 1)) (σ 96 (ix ((24 * ((30 + (σ 93 (ix 1))) - 1)) + (σ 84 (ix ((5 * ((σ 85 (ix (σ 94 (ix ((30 + (σ 93 (ix 1))) - 1))))) + (σ 95 (ix ((30 + (σ 93 (ix 1))) - 1))))) + 1))))))) (fun r74 σ75 => if r74 = 0 then (bd (f_X12_ends N n σ75 1 3) (fun r81 σ82 => some (0, σ82))) else (gb ((24 * ((30 + (σ 93 (ix 1))) - 1)) + (σ 84 (ix ((5 * ((σ 85 (ix (σ 94 (ix ((30 + (σ 93 (ix 1))) - 1))))) + (σ 95 (ix ((30 + (σ 93 (ix 1))) - 1))))) + 1)))) 1440 (gb ((24 * ((30 + (σ 93 (ix 1))) - 1)) + (σ 84 (ix ((5 * ((σ 85 (ix (σ 94 (ix ((30 + (σ 93 (ix 1))) - 1))))) + (σ 95 (ix ((30 + (σ 93 (ix 1))) - 1))))) + 2)))) 1440 (gb (64 + (σ75 96 (ix ((24 * ((30 + (σ 93 (ix 1))) - 1)) + (σ 84 (ix ((5 * ((σ 85 (ix (σ 94 (ix ((30 + (σ 93 (ix 1))) - 1))))) + (σ 95 (ix ((30 + (σ 93 (ix 1))) - 1))))) + 1))))))) 128 (some (0, sg σ75 88 (ix (64 + (σ75 96 (ix ((24 * ((30 + (σ 93 (ix 1))) - 1)) + (σ 84 (ix ((5 * ((σ 85 (ix (σ 94 (ix ((30 + (σ 93 (ix 1))) - 1))))) + (σ 95 (ix ((30 + (σ 93 (ix 1))) - 1))))) + 1)))))))) (σ75 96 (ix ((24 * ((30 + (σ 93 (ix 1))) - 1)) + (σ 84 (ix ((5 * ((σ 85 (ix (σ 94 (ix ((30 + (σ 93 (ix 1))) - 1))))) + (σ 95 (ix ((30 + (σ 93 (ix 1))) - 1))))) + 2)))))))))))))) else (gb (5 * ((σ 85 (ix (σ 94 (ix ((30 + (σ 93 (ix 1))) - 1))))) + (σ 95 (ix ((30 + (σ 93 (ix 1))) - 1))))) 10000 (bd (f_X12_stepCall N n (sg (sg σ 95 (ix ((30 + (σ 93 (ix 1))) - 1)) ((σ 95 (ix ((30 + (σ 93 (ix 1))) - 1))) + 1)) 91 (ix 1) ((σ 91 (ix 1)) + 1)) (σ 84 (ix (5 * ((σ 85 (ix (σ 94 (ix ((30 + (σ 93 (ix 1))) - 1))))) + (σ 95 (ix ((30 + (σ 93 (ix 1))) - 1))))))) (σ 84 (ix ((5 * ((σ 85 (ix (σ 94 (ix ((30 + (σ 93 (ix 1))) - 1))))) + (σ 95 (ix ((30 + (σ 93 (ix 1))) - 1))))) + 1))) (σ 84 (ix ((5 * ((σ 85 (ix (σ 94 (ix ((30 + (σ 93 (ix 1))) - 1))))) + (σ 95 (ix ((30 + (σ 93 (ix 1))) - 1))))) + 2))) ((30 + (σ 93 (ix 1))) - 1)) (fun r85 σ86 => some (0, σ86))))))))))))))))))))))))
theorem rr_def (N n : Nat) (σ : Sg) : f_X12_stepRegisters N n σ = gb 1 2 (if (σ 93 (ix 1)) = 0 then (bd (f_X12_enters N n σ 1 0) (fun _ σ89 => rR N n σ89)) else (rR N n σ)) := rfl
def RFq (σ : Sg) (F r : Nat) : Prop := ∃ g a z, g < F ∧ σ 94 (30 + r) = nI g ∧ σ 95 (30 + r) = nI a ∧ σ 86 g = nI z ∧ a < z ∧ z ≤ 2000
def RIq (σ : Sg) (F h : Nat) : Prop := σ 93 1 = nI h ∧ h ≤ 30 ∧ ∀ r, r < h → RFq σ F r
def REq (σ : Sg) (F : Nat) : Prop := (¬ σ 89 1 = 0) ∨ ∃ h, RIq σ F h
theorem rfq_same {σ σ' : Sg} {F r : Nat} (h : RFq σ F r) (e94 : σ' 94 (30 + r) = σ 94 (30 + r)) (e95 : σ' 95 (30 + r) = σ 95 (30 + r)) (e86 : ∀ j, σ' 86 j = σ 86 j) : RFq σ' F r := by
  obtain ⟨g, a, z, h1, h2, h3, h4, h5⟩ := h
  exact ⟨g, a, z, h1, e94.trans h2, e95.trans h3, (e86 g).trans h4, h5⟩
/-- cells that the register machine leaves alone -/
def Lc (c j : Nat) : Prop := c ≤ 87 ∨ (c = 88 ∧ j < 64) ∨ (89 ≤ c ∧ c ≤ 93 ∧ j = 0) ∨ ((c = 94 ∨ c = 95 ∨ c = 97) ∧ j < 30) ∨ (c = 96 ∧ j < 720) ∨ (c = 100 ∧ j < 6)
def Lw (σ σ' : Sg) : Prop := ∀ c j, Lc c j → σ' c j = σ c j
theorem lw_refl (σ : Sg) : Lw σ σ := fun _ _ _ => rfl
theorem lw_trans {σ σ1 σ2 : Sg} (h : Lw σ σ1) (k : Lw σ1 σ2) : Lw σ σ2 := fun c j q => (k c j q).trans (h c j q)
theorem lw_sg {σ σ' : Sg} {d i : Nat} {x : Int32} (h : Lw σ σ') (k : ¬ Lc d i) : Lw σ (sg σ' d i x) := fun c j q => by
  by_cases e : c = d ∧ j = i
  · exact absurd (by rw [← e.1, ← e.2]; exact q) k
  · exact (sg_o (by omega)).trans (h c j q)
theorem rworks_ok {N n : Nat} {τ : Sg} {o a b : Int32} (h : ¬ (o = 6 ∧ b = 0)) : Ok (f_X12_works N n τ o a b) (fun y => y.2 = τ) := by
  obtain ⟨x, y, -, e2, -, -, h3⟩ := works_rel (N := N) (n := n) (σ := τ) (τ := τ) (a := a) h
  exact ⟨y, e2, h3⟩
theorem isCell_ok {N n : Nat} {τ : Sg} (x : Int32) : f_X12_isCell N n τ x = some (0, τ) ∨ (f_X12_isCell N n τ x = some (1, τ) ∧ Bl x 64) := by
  unfold f_X12_isCell
  rcases cs_n x with q | ⟨k, hk, rfl⟩
  · exact Or.inl (by rw [if_pos q])
  · rw [if_neg (nI_pos hk)]
    have f64 : ((64 : Int32) ≤ nI k) = (64 ≤ k) := le_ln (k := 64) (by omega) (by decide)
    by_cases c : k < 64
    · exact Or.inr ⟨by rw [if_neg (show ¬ (64 : Int32) ≤ nI k by rw [f64]; omega)], k, c, rfl⟩
    · exact Or.inl (by rw [if_pos (show (64 : Int32) ≤ nI k by rw [f64]; omega)])
theorem enterR_ok {N n : Nat} (hN : 1000 ≤ N) {σ : Sg} {F Wd : Nat} {ar lo st le : Nat → Nat} (hp : PR σ F Wd ar lo st le) {h g z : Nat} (hI : RIq σ F h) (hg : g < F) (h30 : h < 30) (h86 : σ 86 g = nI z) (hz : 0 < z) (hz2 : z ≤ 2000) :
    ∃ τ', f_X12_enters N n σ 1 (nI g) = some (0, τ') ∧ RIq τ' F (h + 1) ∧ Lw σ τ' ∧ τ' 89 1 = σ 89 1 := by
  obtain ⟨i1, i2, i3⟩ := hI
  obtain ⟨τ', e, q1, q2, q3, q4, q5, q6, q7, q8, q9⟩ := enters_eq (N := N) (n := n) hN hp (m := 1) (by decide) hg i1 h30
  have q3 : τ' 94 (30 + h) = nI g := q3
  have q4 : τ' 95 (30 + h) = nI 0 := q4
  refine ⟨τ', e, ⟨q1, by omega, fun r hr => ?_⟩, fun c j q => ?_, q9 89 1 (by decide) (by decide) (by decide) (by decide) (by decide) (by omega)⟩
  · have o86 : ∀ j, τ' 86 j = σ 86 j := fun j => q9 86 j (by decide) (by decide) (by decide) (by omega) (by omega) (by omega)
    by_cases er : r = h
    · rw [er]
      exact ⟨g, 0, z, hg, q3, q4, (o86 g).trans h86, hz, hz2⟩
    · exact rfq_same (i3 r (by omega)) (q9 94 _ (by decide) (by decide) (by decide) (by omega) (by omega) (by omega)) (q9 95 _ (by decide) (by decide) (by decide) (by omega) (by omega) (by omega)) o86
  · unfold Lc at q
    by_cases e96 : c = 96
    · subst e96
      exact q7 j (by omega)
    · exact q9 c j e96 (by omega) (by omega) (by omega) (by omega) (by omega)
theorem e89 (τ : Sg) (x : Int32) : sg (sg τ 89 1 x) 93 1 0 89 1 = x := by rw [sg_c (by decide), sg_at]
theorem rR_ok {N n : Nat} (hN : 1000 ≤ N) {σ : Sg} {F Wd : Nat} {ar lo st le : Nat → Nat} (hp : PR σ F Wd ar lo st le) {h : Nat} (hcode : ∀ g, g < F → ∃ S z, FCr σ F g S z) (hI : RIq σ F (h + 1)) : Ok (rR N n σ) (fun y => REq y.2 F ∧ Lw σ y.2) := by
  obtain ⟨h93, h31, hr⟩ := hI
  have h30 : h < 30 := by omega
  have hF := hp.2.1
  obtain ⟨f, a, z, hf, h94, h95, h86, ha, hz2⟩ := hr h (by omega)
  obtain ⟨S, z', c85, c86, cz, cn, cop, clast⟩ := hcode f hf
  obtain rfl : z' = z := (nI_eq (by omega) (by omega)).mp (c86.symm.trans h86)
  obtain ⟨k, hk, ho⟩ := cop a ha
  have kk : ∀ (m : Nat), m < 2147483648 → nI k = nI m → k = m := fun m hm q => (nI_eq (by have := ho.1; omega) hm).mp q
  have nx : k ≠ 4 → k ≠ 6 → a + 1 < z' := fun n4 n6 => by
    by_cases e : a + 1 < z'
    · exact e
    · have ea : S + z' - 1 = S + a := by omega
      rw [ea, hk] at clast
      rcases clast with q | q
      · exact absurd (kk 4 (by decide) q) n4
      · exact absurd (kk 6 (by decide) q) n6
  have g12 : ∀ y : Option (Int32 × Sg), gb 1 2 y = y := fun y => gb_nI (k := 1) (by decide) (by decide)
  have i1 : ix 1 = 1 := rfl
  have eC : (30 + nI (h + 1)) - 1 = nI (30 + h) := by
    have e : (30 : Int32) + nI (h + 1) = nI (30 + (h + 1)) := ad_ln (h + 1) 30
    rw [e, sb_nl (k := 1) (show 1 ≤ 30 + (h + 1) by omega)]
    exact congrArg nI (show 30 + (h + 1) - 1 = 30 + h by omega)
  have eA : (5 : Int32) * (nI S + nI a) = nI (5 * (S + a)) := by
    rw [ad_nn, ml_ln (S + a) 5]
  have e24 : (24 : Int32) * nI (30 + h) = nI (24 * (30 + h)) := ml_ln (30 + h) 24
  have e7 : (7 : Int32) * nI (30 + h) = nI (7 * (30 + h)) := ml_ln (30 + h) 7
  have a1 : nI (5 * (S + a)) + 1 = nI (5 * (S + a) + 1) := ad_nl _ 1
  have a2 : nI (5 * (S + a)) + 2 = nI (5 * (S + a) + 2) := ad_nl _ 2
  have a3 : nI (5 * (S + a)) + 3 = nI (5 * (S + a) + 3) := ad_nl _ 3
  have a4 : nI (5 * (S + a)) + 4 = nI (5 * (S + a) + 4) := ad_nl _ 4
  have xC : ix (nI (30 + h)) = 30 + h := ix_nI (by omega)
  have xf : ix (nI f) = f := ix_nI (by omega)
  have x0 : ix (nI (5 * (S + a))) = 5 * (S + a) := ix_nI (by omega)
  have x1 : ix (nI (5 * (S + a) + 1)) = 5 * (S + a) + 1 := ix_nI (by omega)
  have x2 : ix (nI (5 * (S + a) + 2)) = 5 * (S + a) + 2 := ix_nI (by omega)
  have x3 : ix (nI (5 * (S + a) + 3)) = 5 * (S + a) + 3 := ix_nI (by omega)
  have x4 : ix (nI (5 * (S + a) + 4)) = 5 * (S + a) + 4 := ix_nI (by omega)
  have gC : ∀ y : Option (Int32 × Sg), gb (nI (30 + h)) 60 y = y := fun y => gb_nI (by omega) (by decide)
  have gf : ∀ y : Option (Int32 × Sg), gb (nI f) 12 y = y := fun y => gb_nI (by omega) (by decide)
  have g0 : ∀ y : Option (Int32 × Sg), gb (nI (5 * (S + a))) 10000 y = y := fun y => gb_nI (by omega) (by decide)
  have g1 : ∀ y : Option (Int32 × Sg), gb (nI (5 * (S + a) + 1)) 10000 y = y := fun y => gb_nI (by omega) (by decide)
  have g2 : ∀ y : Option (Int32 × Sg), gb (nI (5 * (S + a) + 2)) 10000 y = y := fun y => gb_nI (by omega) (by decide)
  have g3 : ∀ y : Option (Int32 × Sg), gb (nI (5 * (S + a) + 3)) 10000 y = y := fun y => gb_nI (by omega) (by decide)
  have g4 : ∀ y : Option (Int32 × Sg), gb (nI (5 * (S + a) + 4)) 10000 y = y := fun y => gb_nI (by omega) (by decide)
  unfold rR
  simp only [i1, h93, eC, xC, h94, xf, c85, h95, eA, a1, a2, a3, a4, x0, x1, x2, x3, x4, hk, e24, g12, gC, gf, g0, g1, g2, g3, g4]
  obtain ⟨σ1, e1⟩ : ∃ q, q = sg (sg σ 95 (30 + h) (nI a + 1)) 91 1 (σ 91 1 + 1) := ⟨_, rfl⟩
  rw [← e1]
  have o95 : ∀ j, σ1 95 j = if j = 30 + h then nI (a + 1) else σ 95 j := fun j => by
    rw [e1, sg_c (by decide), sg_if]
    exact congrArg (fun q => if j = 30 + h then q else σ 95 j) (ad_nl a 1)
  have o1 : ∀ c j, c ≠ 91 → c ≠ 95 → σ1 c j = σ c j := fun c j p q => by rw [e1, sg_c p, sg_c q]
  have w1 : Lw σ σ1 := by
    rw [e1]
    exact lw_sg (lw_sg (lw_refl σ) (by unfold Lc; omega)) (by unfold Lc; omega)
  have r1 : ∀ r, r < h → RFq σ1 F r := fun r q => rfq_same (hr r (by omega)) (o1 94 _ (by decide) (by decide)) (by rw [o95, if_neg (by omega)]) (fun j => o1 86 j (by decide) (by decide))
  -- it goes on in the same call
  have stay : ∀ σ' : Sg, k ≠ 4 → k ≠ 6 → (∀ c j, c = 86 ∨ c = 93 ∨ c = 94 ∨ c = 95 → σ' c j = σ1 c j) → Lw σ σ' → REq σ' F ∧ Lw σ σ' := by
    intro σ' n4 n6 e lw
    refine ⟨Or.inr ⟨h + 1, ?_, by omega, fun r hr2 => ?_⟩, lw⟩
    · rw [e 93 1 (by omega), o1 93 1 (by decide) (by decide)]; exact h93
    · by_cases er : r = h
      · rw [er]
        refine ⟨f, a + 1, z', hf, ?_, ?_, ?_, nx n4 n6, by omega⟩
        · rw [e 94 _ (by omega), o1 94 _ (by decide) (by decide)]; exact h94
        · rw [e 95 _ (by omega), o95, if_pos rfl]
        · rw [e 86 _ (by omega), o1 86 _ (by decide) (by decide)]; exact h86
      · exact rfq_same (r1 r (by omega)) (e 94 _ (by omega)) (e 95 _ (by omega)) (fun j => e 86 j (by omega))
  have goes : ∀ y, y < z' → REq (sg σ1 95 (30 + h) (nI y)) F ∧ Lw σ (sg σ1 95 (30 + h) (nI y)) := by
    intro y hy
    refine ⟨Or.inr ⟨h + 1, ?_, by omega, fun r hr2 => ?_⟩, lw_sg w1 (by unfold Lc; omega)⟩
    · rw [sg_c (by decide), o1 93 1 (by decide) (by decide)]; exact h93
    · by_cases er : r = h
      · rw [er]
        refine ⟨f, y, z', hf, ?_, sg_at _ _ _ _, ?_, hy, by omega⟩
        · rw [sg_c (by decide), o1 94 _ (by decide) (by decide)]; exact h94
        · rw [sg_c (by decide), o1 86 _ (by decide) (by decide)]; exact h86
      · exact rfq_same (r1 r (by omega)) (sg_c (by decide)) (sg_ne (by omega)) (fun j => sg_c (by decide))
  have put : ∀ (c : Nat) (i : Nat) (x : Int32), k ≠ 4 → k ≠ 6 → c ≠ 86 → c ≠ 93 → c ≠ 94 → c ≠ 95 → ¬ Lc c i → REq (sg σ1 c i x) F ∧ Lw σ (sg σ1 c i x) := fun c i x n4 n6 q1 q2 q3 q4 ql => stay _ n4 n6 (fun d j q => sg_c (by omega)) (lw_sg w1 ql)
  have ends : ∀ (x : Int32), ¬ x = 0 → Ok (f_X12_ends N n σ1 1 x) (fun y => REq y.2 F ∧ Lw σ y.2) := by
    intro x hx
    rw [show f_X12_ends N n σ1 1 x = some (0, sg (sg σ1 89 1 x) 93 1 0) from ends_eq (m := 1) (by decide) x]
    refine ok_ret ⟨Or.inl ?_, lw_sg (lw_sg w1 (by unfold Lc; omega)) (by unfold Lc; omega)⟩
    show ¬ sg (sg σ1 89 1 x) 93 1 0 89 1 = 0
    rw [sg_c (by decide), sg_at]
    exact hx
  have idx : ∀ {x : Int32} {y : Option (Int32 × Sg)}, Bl x 16 → gb (nI (24 * (30 + h)) + x) 1440 y = y := by
    intro x y hx
    obtain ⟨w, hw, rfl⟩ := hx
    rw [ad_nn, gb_nI (show 24 * (30 + h) + w < 1440 by omega) (by decide)]
  have ids : ∀ {x : Int32} {y : Option (Int32 × Sg)}, Bl x 24 → gb (nI (24 * (30 + h)) + x) 1440 y = y := by
    intro x y hx
    obtain ⟨w, hw, rfl⟩ := hx
    rw [ad_nn, gb_nI (show 24 * (30 + h) + w < 1440 by omega) (by decide)]
  have idl : ∀ {x : Int32}, Bl x 16 → ¬ Lc 96 (ix (nI (24 * (30 + h)) + x)) := by
    intro x hx
    obtain ⟨w, hw, rfl⟩ := hx
    rw [ad_nn, ix_nI (by omega)]
    unfold Lc
    omega
  have p96 : ∀ {x : Int32} (v : Int32), Bl x 16 → k ≠ 4 → k ≠ 6 → REq (sg σ1 96 (ix (nI (24 * (30 + h)) + x)) v) F ∧ Lw σ (sg σ1 96 (ix (nI (24 * (30 + h)) + x)) v) := fun v hb n4 n6 => put 96 _ v n4 n6 (by decide) (by decide) (by decide) (by decide) (idl hb)
  have bd1 : ∀ {x : Option (Int32 × Sg)}, Ok x (fun y => REq y.2 F ∧ Lw σ y.2) → Ok (bd x (fun _ σ2 => some ((0 : Int32), σ2))) (fun y => REq y.2 F ∧ Lw σ y.2) := fun hx => ok_bd hx (fun r σ2 _ hh => ok_ret hh)
  obtain ⟨o0, oa, og, os, op6, oc, ob, obg, obs, obt, ow⟩ := ho
  refine ok_if (fun c => ?_) (fun n0 => ?_)
  · obtain rfl : k = 0 := kk 0 (by decide) c
    rw [idx (oa (by decide))]
    exact ok_ret (p96 _ (oa (by decide)) (by decide) (by decide))
  refine ok_if (fun c => ?_) (fun n1 => ?_)
  · obtain rfl : k = 1 := kk 1 (by decide) c
    rw [idx (ob (by decide)), idx (oa (by decide))]
    exact ok_ret (p96 _ (oa (by decide)) (by decide) (by decide))
  refine ok_if (fun c => ?_) (fun n2 => ?_)
  · obtain rfl : k = 2 := kk 2 (by decide) c
    refine ok_if (fun c6 => ?_) (fun c6 => ?_)
    · rw [idx (ow rfl)]
      refine ok_if (fun _ => bd1 (ends 2 (by decide))) (fun cz => ?_)
      rw [idx (ob (by decide)), idx (ow rfl)]
      refine ok_bd (rworks_ok (fun q => cz q.2)) (fun r2 σ2 _ h2 => ?_)
      have h2 : σ2 = σ1 := h2
      subst h2
      rw [idx (oa (by decide))]
      exact ok_ret (p96 _ (oa (by decide)) (by decide) (by decide))
    · rw [idx (ob (by decide)), idx (ow rfl)]
      refine ok_bd (rworks_ok (fun q => c6 q.1)) (fun r2 σ2 _ h2 => ?_)
      have h2 : σ2 = σ1 := h2
      subst h2
      rw [idx (oa (by decide))]
      exact ok_ret (p96 _ (oa (by decide)) (by decide) (by decide))
  refine ok_if (fun c => ?_) (fun n3 => ?_)
  · obtain rfl : k = 3 := kk 3 (by decide) c
    rw [idx (oa (by decide)), idx (ob (by decide)), idx (oa (by decide)), idx (ob (by decide))]
    exact ok_ret (stay _ (by decide) (by decide) (fun d j q => (sg_c (by omega)).trans (sg_c (by omega))) (lw_sg (lw_sg w1 (idl (oa (by decide)))) (idl (ob (by decide)))))
  refine ok_if (fun c => ?_) (fun n4 => ?_)
  · obtain rfl : k = 4 := kk 4 (by decide) c
    obtain ⟨y, y1, y2⟩ := og rfl
    rw [y2]
    exact ok_ret (goes y y1)
  refine ok_if (fun c => ?_) (fun n5 => ?_)
  · obtain rfl : k = 5 := kk 5 (by decide) c
    obtain ⟨y, y1, y2⟩ := obg rfl
    rw [idx (oa (by decide))]
    refine ok_if (fun _ => ?_) (fun _ => ?_)
    · rw [y2]
      exact ok_ret (goes y y1)
    · rw [ad_nl a 1]
      exact ok_ret (goes (a + 1) (nx (by decide) (by decide)))
  refine ok_if (fun c => ?_) (fun n6 => ?_)
  · obtain rfl : k = 6 := kk 6 (by decide) c
    rw [idx (oa (by decide))]
    unfold f_X12_over
    rw [g12, g12, g12, i1, o1 93 1 (by decide) (by decide), h93]
    have e2 : nI (h + 1) - 1 = nI h := (sb_nl (k := 1) (show 1 ≤ h + 1 by omega)).trans (congrArg nI (show h + 1 - 1 = h by omega))
    rw [e2]
    refine bd1 (ok_if (fun c2 => ?_) (fun c2 => ?_))
    · rw [g12, show f_X12_ends N n (sg (sg σ1 93 1 (nI h)) 90 1 (σ 96 (ix (nI (24 * (30 + h)) + σ 84 (5 * (S + a) + 1))))) 1 1 = some (0, _) from ends_eq (m := 1) (by decide) 1, bd_s]
      refine ok_ret ⟨Or.inl ?_, lw_sg (lw_sg (lw_sg (lw_sg w1 (by unfold Lc; omega)) (by unfold Lc; omega)) (by unfold Lc; omega)) (by unfold Lc; omega)⟩
      exact (fun q => absurd (show (1 : Int32) = 0 from (e89 (sg (sg σ1 93 1 (nI h)) 90 1 (σ 96 (ix (nI (24 * (30 + h)) + σ 84 (5 * (S + a) + 1))))) 1).symm.trans q) (by decide))
    · rw [g12, if_neg (by decide)]
      refine ok_ret ⟨Or.inr ⟨h, ?_, by omega, fun r hr2 => rfq_same (r1 r hr2) ?_ ?_ (fun _ => ?_)⟩, lw_sg (lw_sg w1 (by unfold Lc; omega)) (by unfold Lc; omega)⟩
      · simp (disch := decide) only [sg_c, sg_at]
      · simp (disch := decide) only [sg_c]
      · simp (disch := decide) only [sg_c]
      · simp (disch := decide) only [sg_c]
  refine ok_if (fun c => ?_) (fun n7 => ?_)
  · obtain rfl : k = 7 := kk 7 (by decide) c
    rw [idx (ob (by decide))]
    rcases isCell_ok (N := N) (n := n) (τ := σ1) (σ 96 (ix (nI (24 * (30 + h)) + σ 84 (5 * (S + a) + 2)))) with e | ⟨e, w, hw, ew⟩
    · rw [e, bd_s, if_pos rfl]
      exact bd1 (ends 3 (by decide))
    · rw [e, bd_s, if_neg (by decide), idx (ob (by decide)), o1 96 _ (by decide) (by decide), ew, ad_ln, gb_nI (show OfNat.ofNat 64 + w < 128 by have : (OfNat.ofNat 64 : Nat) = 64 := rfl; omega) (by decide), idx (oa (by decide))]
      exact ok_ret (p96 _ (oa (by decide)) (by decide) (by decide))
  refine ok_if (fun c => ?_) (fun n8 => ?_)
  · obtain rfl : k = 8 := kk 8 (by decide) c
    rw [idx (oa (by decide))]
    rcases isCell_ok (N := N) (n := n) (τ := σ1) (σ 96 (ix (nI (24 * (30 + h)) + σ 84 (5 * (S + a) + 1)))) with e | ⟨e, w, hw, ew⟩
    · rw [e, bd_s, if_pos rfl]
      exact bd1 (ends 3 (by decide))
    · rw [e, bd_s, if_neg (by decide), idx (oa (by decide)), idx (ob (by decide)), o1 96 (ix (nI (24 * (30 + h)) + σ 84 (5 * (S + a) + 1))) (by decide) (by decide), ew, ad_ln]
      have e64 : OfNat.ofNat 64 + w = 64 + w := rfl
      rw [e64, gb_nI (show 64 + w < 128 by omega) (by decide), ix_nI (k := 64 + w) (by omega)]
      exact ok_ret (put 88 _ _ (by decide) (by decide) (by decide) (by decide) (by decide) (by decide) (by unfold Lc; omega))
  refine bd1 ?_
  unfold f_X12_stepCall
  rw [e24, e7, g12, i1]
  refine ok_if (fun c => ?_) (fun n9 => ?_)
  · obtain rfl : k = 9 := kk 9 (by decide) c
    rw [ids (obs rfl), idx (oa (by decide))]
    exact ok_ret (p96 _ (oa (by decide)) (by decide) (by decide))
  refine ok_if (fun c => ?_) (fun n10 => ?_)
  · obtain rfl : k = 10 := kk 10 (by decide) c
    rw [idx (ob (by decide)), ids (os rfl)]
    exact ok_ret (put 98 _ _ (by decide) (by decide) (by decide) (by decide) (by decide) (by decide) (by unfold Lc; omega))
  refine ok_if (fun c => ?_) (fun n11 => ?_)
  · obtain rfl : k = 11 := kk 11 (by decide) c
    obtain ⟨w, hw, ew⟩ := obt rfl
    rw [ew, ad_nn, gb_nI (show 7 * (30 + h) + w < 420 by omega) (by decide), idx (oa (by decide))]
    exact ok_ret (p96 _ (oa (by decide)) (by decide) (by decide))
  refine ok_if (fun c => ?_) (fun n12 => ?_)
  · obtain rfl : k = 12 := kk 12 (by decide) c
    obtain ⟨w, hw, ew⟩ := op6 rfl
    rw [idx (ob (by decide)), ew, ad_ln]
    have e6 : OfNat.ofNat 6 + w = 6 + w := rfl
    rw [e6, gb_nI (show 6 + w < 12 by omega) (by decide), ix_nI (k := 6 + w) (by omega)]
    exact ok_ret (put 100 _ _ (by decide) (by decide) (by decide) (by decide) (by decide) (by decide) (by unfold Lc; omega))
  refine ok_if (fun c => ?_) (fun n14 => ?_)
  · obtain rfl : k = 14 := kk 14 (by decide) c
    rw [idx (oa (by decide))]
    exact ok_ret (p96 _ (oa (by decide)) (by decide) (by decide))
  have e13 : k = 13 := by
    have z0 : k ≠ 0 := fun q => n0 (by rw [q]; rfl)
    have z1 : k ≠ 1 := fun q => n1 (by rw [q]; rfl)
    have z2 : k ≠ 2 := fun q => n2 (by rw [q]; rfl)
    have z3 : k ≠ 3 := fun q => n3 (by rw [q]; rfl)
    have z4 : k ≠ 4 := fun q => n4 (by rw [q]; rfl)
    have z5 : k ≠ 5 := fun q => n5 (by rw [q]; rfl)
    have z6 : k ≠ 6 := fun q => n6 (by rw [q]; rfl)
    have z7 : k ≠ 7 := fun q => n7 (by rw [q]; rfl)
    have z8 : k ≠ 8 := fun q => n8 (by rw [q]; rfl)
    have z9 : k ≠ 9 := fun q => n9 (by rw [q]; rfl)
    have z10 : k ≠ 10 := fun q => n10 (by rw [q]; rfl)
    have z11 : k ≠ 11 := fun q => n11 (by rw [q]; rfl)
    have z12 : k ≠ 12 := fun q => n12 (by rw [q]; rfl)
    have z14 : k ≠ 14 := fun q => n14 (by rw [q]; rfl)
    clear hr cop oc obg og os op6 oa ob obs obt ow
    omega
  subst e13
  rw [g12, o1 93 1 (by decide) (by decide), h93]
  have hI1 : RIq σ1 F (h + 1) := ⟨(o1 93 1 (by decide) (by decide)).trans h93, by omega, fun r hr2 => by
    by_cases er : r = h
    · rw [er]
      exact ⟨f, a + 1, z', hf, (o1 94 _ (by decide) (by decide)).trans h94, by rw [o95, if_pos rfl], (o1 86 _ (by decide) (by decide)).trans h86, nx (by decide) (by decide), by omega⟩
    · exact r1 r (by omega)⟩
  refine ok_if (fun _ => bd1 (ends 4 (by decide))) (fun c30 => ?_)
  have hh : h + 1 < 30 := by
    by_cases e : h + 1 = 30
    · exact absurd (by rw [e]; rfl) c30
    · omega
  obtain ⟨g, gF, eg⟩ := oc rfl
  obtain ⟨Sg2, zg, fg⟩ := hcode g gF
  obtain ⟨τ', t1, t2, t3, -⟩ := enterR_ok (N := N) (n := n) hN (hr_PR ⟨fun c j p q => o1 c j (by omega) (by omega), o1 59 1 (by decide) (by decide), o1 59 6 (by decide) (by decide)⟩ hp) hI1 gF hh ((o1 86 _ (by decide) (by decide)).trans fg.2.1) fg.2.2.1 (by have := fg.2.2.2.1; omega)
  rw [eg, t1, bd_s]
  exact ok_ret ⟨Or.inr ⟨_, t2⟩, lw_trans w1 t3⟩
