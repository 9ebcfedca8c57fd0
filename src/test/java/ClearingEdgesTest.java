/** The boundary cases of promises 9 to 18, each by itself. */
public final class ClearingEdgesTest {
    private static final int NONE = -1;
    private static final int UNKNOWN = -101;
    private static final int OUTSIDE = -102;
    private static final int LEAST = Integer.MIN_VALUE;
    private static final int MOST = Integer.MAX_VALUE;
    private static final int[] NO_HOUSES = {LEAST, -102, -101, -1, 3, 4, 5, MOST};
    private static final int[] NO_PARTS = {LEAST, -102, -1, 2, 3, MOST};

    public static void main(String[] args) {
        Check check = new Check("ClearingEdgesTest");
        falls(check);
        rounds(check);
        share(check);
        manyFallenShares(check);
        gross(check);
        pays(check);
        left(check);
        lost(check);
        drag(check);
        help(check);
        best(check);
        refusals(check);
        check.end();
    }

    private static void falls(Check check) {
        check.test("promise 9: one that owes nothing and has nothing does not fall", x -> {
            check.due("falls(0)", x.falls(0), 0);
        });
        check.test("promise 9: one that owes 1 and has nothing falls", x -> {
            x.owe(0, 1, 1);
            check.due("falls(0)", x.falls(0), 1);
        });
        check.test("promise 9: gross that is as much as it owes, only by what others pay", x -> {
            x.houses(2);
            x.cash(0, 50);
            x.owe(0, 1, 50);
            x.owe(1, 2, 50);
            check.due("falls(1)", x.falls(1), 0);
            x.owe(0, 1, 49);
            check.due("falls(1), one less", x.falls(1), 1);
        });
        check.test("promise 9: fractions that sum to as much as it owes", x -> {
            twoThirds(x);
            check.due("falls(2)", x.falls(2), 0);
            check.due("rounds()", x.rounds(), 1);
        });
        check.test("promise 9: a third below what it owes", x -> {
            twoThirds(x);
            x.cash(1, 19);
            check.due("falls(2)", x.falls(2), 2);
        });
        check.test("promise 9: debts round a ring, no cash, no toll is taken: none falls", x -> {
            full(x, 0);
            for (int i = 0; i < 4; i++) {
                x.owe(i, 4, 0);
            }
            x.toll(5);
            for (int i = 0; i < 4; i++) {
                check.due("falls(" + i + ")", x.falls(i), 0);
            }
        });
        check.test("promise 9: full debts, 50 in cash is enough for each", x -> {
            full(x, 50);
            for (int i = 0; i < 4; i++) {
                check.due("falls(" + i + ")", x.falls(i), 0);
            }
        });
        check.test("promise 9: full debts, 49 in cash: all fall in round 1", x -> {
            full(x, 49);
            for (int i = 0; i < 4; i++) {
                check.due("falls(" + i + ")", x.falls(i), 1);
            }
        });
        check.test("promise 9: the toll alone drags another along", x -> {
            x.houses(2);
            x.cash(0, 20);
            x.owe(0, 1, 30);
            x.owe(1, 2, 20);
            check.due("falls(1) without toll", x.falls(1), 0);
            x.toll(1);
            check.due("falls(1) with toll", x.falls(1), 2);
            check.due("falls(0) stays in its round", x.falls(0), 1);
        });
    }

    private static void rounds(Check check) {
        check.test("promise 10: the round in which none falls does not count", x -> {
            x.houses(2);
            x.owe(0, 1, 5);
            check.due("rounds()", x.rounds(), 1);
        });
        check.test("promise 10: one house has one round at most", x -> {
            x.owe(0, 1, 50);
            check.due("rounds()", x.rounds(), 1);
        });
        check.test("promise 10: all four in one round", x -> {
            full(x, 0);
            check.due("rounds()", x.rounds(), 1);
        });
        check.test("promise 10: four rounds, the most, from the last house to the first", x -> {
            fourRounds(x);
            check.due("rounds()", x.rounds(), 4);
            for (int i = 0; i < 4; i++) {
                check.due("falls(" + i + ")", x.falls(i), 4 - i);
            }
        });
        check.test("promise 10: asked again, and mended, rounds are told anew", x -> {
            fourRounds(x);
            check.due("rounds()", x.rounds(), 4);
            check.due("rounds() again", x.rounds(), 4);
            x.cash(3, 40);
            check.due("rounds() mended", x.rounds(), 0);
            check.due("falls(3) mended", x.falls(3), 0);
        });
    }

    private static void share(Check check) {
        check.test("promise 11: 1 of one that owes nothing", x -> {
            check.fraction("share(0)", x.share(0, 0), x.share(0, 1), 1, 1);
        });
        check.test("promise 11: 1 of one that has just as much", x -> {
            x.cash(0, 50);
            x.owe(0, 1, 50);
            x.toll(5);
            check.fraction("share(0)", x.share(0, 0), x.share(0, 1), 1, 1);
        });
        check.test("promise 11: 0 of one that has nothing, in lowest terms", x -> {
            x.owe(0, 1, 50);
            check.fraction("share(0)", x.share(0, 0), x.share(0, 1), 0, 1);
        });
        check.test("promise 11: one less than it owes, of the most", x -> {
            x.houses(4);
            x.cash(0, 199);
            for (int j = 1; j <= 4; j++) {
                x.owe(0, j, 50);
            }
            check.fraction("share(0)", x.share(0, 0), x.share(0, 1), 199, 200);
            x.toll(5);
            check.fraction("share(0), half lost", x.share(0, 0), x.share(0, 1), 199, 400);
        });
        check.test("promise 11: lowest terms", x -> {
            x.cash(0, 25);
            x.owe(0, 1, 50);
            check.fraction("share(0)", x.share(0, 0), x.share(0, 1), 1, 2);
        });
        check.test("promise 11: each toll from 0 to 5", x -> {
            x.cash(0, 1);
            x.owe(0, 1, 2);
            int[] above = {1, 9, 2, 7, 3, 1};
            int[] below = {2, 20, 5, 20, 10, 4};
            for (int toll = 0; toll <= 5; toll++) {
                x.toll(toll);
                check.fraction("share(0)", x.share(0, 0), x.share(0, 1), above[toll], below[toll]);
            }
        });
        check.test("promise 11: cash far above what is owed", x -> {
            full(x, 1000);
            for (int i = 0; i < 4; i++) {
                check.fraction("share(" + i + ")", x.share(i, 0), x.share(i, 1), 1, 1);
            }
        });
    }

    private static void manyFallenShares(Check check) {
        check.test("promise 11: all four fallen at once", x -> {
            full(x, 49);
            // 200 s = 49 + 150 s
            check.fraction("share(3)", x.share(3, 0), x.share(3, 1), 49, 50);
            x.toll(5);
            // 400 s = 49 + 150 s
            check.fraction("share(3), half lost", x.share(3, 0), x.share(3, 1), 49, 250);
        });
        check.test("promise 11: all four fallen with nothing", x -> {
            full(x, 0);
            for (int i = 0; i < 4; i++) {
                check.fraction("share(" + i + ")", x.share(i, 0), x.share(i, 1), 0, 1);
            }
        });
        check.test("promise 11: no toll, and a ring that leaks one only: still just one way", x -> {
            x.houses(4);
            for (int i = 0; i < 4; i++) {
                x.owe(i, (i + 1) % 4, 50);
            }
            x.owe(0, 4, 1);
            for (int i = 0; i < 4; i++) {
                check.fraction("share(" + i + ")", x.share(i, 0), x.share(i, 1), 0, 1);
            }
        });
        check.test("promise 11: the last to fall changes the shares of the first", x -> {
            x.houses(2);
            x.cash(0, 10);
            x.owe(0, 1, 20);
            x.owe(1, 0, 5);
            x.owe(1, 2, 14);
            // 0 has 15 of 20, so 1 has 15 of 19; then 20 a = 10 + 5 b, 19 b = 20 a
            check.due("falls(1)", x.falls(1), 2);
            check.fraction("share(0)", x.share(0, 0), x.share(0, 1), 19, 28);
            check.fraction("share(1)", x.share(1, 0), x.share(1, 1), 5, 7);
        });
        check.test("promise 11: numbers above 2 to the 31st", x -> {
            greatNumbers(x);
            check.fraction("share(0)", x.share(0, 0), x.share(0, 1), 1114492521303L, 5289982781581L);
        });
    }

    private static void gross(Check check) {
        check.test("promise 12: nothing", x -> {
            check.fraction("gross(0)", x.gross(0, 0), x.gross(0, 1), 0, 1);
        });
        check.test("promise 12: cash alone, at most 1000", x -> {
            x.cash(0, 1000);
            check.fraction("gross(0)", x.gross(0, 0), x.gross(0, 1), 1000, 1);
        });
        check.test("promise 12: cash and full debts of all others", x -> {
            full(x, 1000);
            check.fraction("gross(2)", x.gross(2, 0), x.gross(2, 1), 1150, 1);
        });
        check.test("promise 12: cash above 1000", x -> {
            above1000(x);
            check.fraction("gross(1)", x.gross(1, 0), x.gross(1, 1), 1050, 1);
        });
        check.test("promise 12: what fallen ones pay is a fraction", x -> {
            twoThirds(x);
            x.cash(1, 19);
            check.fraction("gross(2)", x.gross(2, 0), x.gross(2, 1), 29, 3);
        });
        check.test("promise 12: fractions that sum to a whole", x -> {
            twoThirds(x);
            check.fraction("gross(2)", x.gross(2, 0), x.gross(2, 1), 10, 1);
        });
        check.test("promise 12: of a fallen one, before the toll is taken", x -> {
            full(x, 49);
            x.toll(5);
            check.fraction("gross(0)", x.gross(0, 0), x.gross(0, 1), 392, 5);
        });
    }

    private static void pays(Check check) {
        check.test("promise 13: to itself nothing, in lowest terms", x -> {
            x.houses(2);
            x.cash(0, 5);
            x.owe(0, 1, 9);
            check.fraction("pays(0, 0)", x.pays(0, 0, 0), x.pays(0, 0, 1), 0, 1);
        });
        check.test("promise 13: to one that it owes nothing", x -> {
            x.houses(2);
            x.cash(0, 5);
            x.owe(0, 1, 9);
            check.fraction("pays(0, 2)", x.pays(0, 2, 0), x.pays(0, 2, 1), 0, 1);
            check.fraction("pays(1, 0)", x.pays(1, 0, 0), x.pays(1, 0, 1), 0, 1);
        });
        check.test("promise 13: to outside, told as n", x -> {
            for (int n = 1; n <= 4; n++) {
                x.houses(n);
                x.cash(n - 1, 7);
                x.owe(n - 1, n, 50);
                check.fraction("pays(n - 1, n)", x.pays(n - 1, n, 0), x.pays(n - 1, n, 1), 7, 1);
                check.due("pays(n - 1, n + 1)", x.pays(n - 1, n + 1, 0), UNKNOWN);
                check.due("pays(n, 0)", x.pays(n, 0, 0), UNKNOWN);
            }
        });
        check.test("promise 13: whole, the most", x -> {
            full(x, 50);
            check.fraction("pays(3, 0)", x.pays(3, 0, 0), x.pays(3, 0, 1), 50, 1);
        });
        check.test("promise 13: nothing of 50", x -> {
            full(x, 0);
            check.fraction("pays(3, 4)", x.pays(3, 4, 0), x.pays(3, 4, 1), 0, 1);
        });
        check.test("promise 13: a fallen one that pays a whole number", x -> {
            full(x, 49);
            check.fraction("pays(1, 2)", x.pays(1, 2, 0), x.pays(1, 2, 1), 49, 1);
        });
        check.test("promise 13: houses far off", x -> {
            x.houses(3);
            for (int k : NO_HOUSES) {
                check.due("pays(" + k + ", 0, 0)", x.pays(k, 0, 0), UNKNOWN);
                check.due("pays(0, " + k + ", 0)", x.pays(0, k, 0), k == 3 ? 0 : UNKNOWN);
            }
        });
        check.test("promise 13: of several refusals the first", x -> {
            check.due("i and part", x.pays(1, 0, 2), UNKNOWN);
            check.due("j and part", x.pays(0, 2, -1), UNKNOWN);
            check.due("part, to itself", x.pays(0, 0, 2), OUTSIDE);
        });
    }

    private static void left(Check check) {
        check.test("promise 14: nothing of nothing", x -> {
            check.fraction("left(0)", x.left(0, 0), x.left(0, 1), 0, 1);
        });
        check.test("promise 14: just nothing of one that pays all", x -> {
            full(x, 50);
            check.fraction("left(0)", x.left(0, 0), x.left(0, 1), 0, 1);
        });
        check.test("promise 14: 1 of one that has one more", x -> {
            x.cash(0, 51);
            x.owe(0, 1, 50);
            check.fraction("left(0)", x.left(0, 0), x.left(0, 1), 1, 1);
        });
        check.test("promise 14: 0 of a fallen one, whatever its gross and the toll", x -> {
            x.cash(0, 49);
            x.owe(0, 1, 50);
            for (int toll = 0; toll <= 5; toll++) {
                x.toll(toll);
                check.fraction("left(0)", x.left(0, 0), x.left(0, 1), 0, 1);
            }
        });
        check.test("promise 14: the most of those that owe nothing, and above 1000", x -> {
            above1000(x);
            check.fraction("left(1)", x.left(1, 0), x.left(1, 1), 1050, 1);
        });
        check.test("promise 14: a fraction less than 1", x -> {
            twoThirds(x);
            x.cash(1, 20);
            x.owe(2, 3, 9);
            x.cash(0, 9);
            // 3 and 20 thirds, less 9
            check.fraction("left(2)", x.left(2, 0), x.left(2, 1), 2, 3);
        });
    }

    private static void lost(Check check) {
        check.test("promise 15: no toll, nothing is lost, in lowest terms", x -> {
            full(x, 49);
            check.fraction("lost", x.lost(0), x.lost(1), 0, 1);
        });
        check.test("promise 15: none fallen, nothing is lost", x -> {
            full(x, 50);
            x.toll(5);
            check.fraction("lost", x.lost(0), x.lost(1), 0, 1);
        });
        check.test("promise 15: fallen with nothing, nothing is lost", x -> {
            full(x, 0);
            x.toll(5);
            check.fraction("lost", x.lost(0), x.lost(1), 0, 1);
        });
        check.test("promise 15: a tenth of 1", x -> {
            x.cash(0, 1);
            x.owe(0, 1, 2);
            x.toll(1);
            check.fraction("lost", x.lost(0), x.lost(1), 1, 10);
        });
        check.test("promise 15: a whole number", x -> {
            x.cash(0, 10);
            x.owe(0, 1, 11);
            x.toll(3);
            check.fraction("lost", x.lost(0), x.lost(1), 3, 1);
        });
        check.test("promise 15: of all four", x -> {
            full(x, 49);
            x.toll(5);
            check.fraction("lost", x.lost(0), x.lost(1), 784, 5);
        });
        check.test("promise 15: what those that stand have is not lost", x -> {
            x.houses(2);
            x.toll(5);
            x.cash(1, 1000);
            x.cash(0, 4);
            x.owe(0, 1, 5);
            check.fraction("lost", x.lost(0), x.lost(1), 2, 1);
        });
        check.test("promise 15: numbers above 2 to the 31st", x -> {
            greatNumbers(x);
            check.fraction("lost", x.lost(0), x.lost(1), 734263021973253L, 10579965563162L);
        });
        check.test("promise 15: parts far off", x -> {
            for (int part : NO_PARTS) {
                check.due("lost(" + part + ")", x.lost(part), OUTSIDE);
            }
        });
    }

    private static void drag(Check check) {
        check.test("promise 16: none, of one that owes nothing", x -> {
            x.cash(0, 1000);
            check.due("drag(0)", x.drag(0), 0);
        });
        check.test("promise 16: none, where others pay it as much as it owes", x -> {
            x.houses(2);
            x.cash(0, 50);
            x.owe(0, 1, 50);
            x.owe(1, 2, 50);
            x.cash(1, 9);
            check.due("drag(1)", x.drag(1), 0);
        });
        check.test("promise 16: without cash already, it is those that fall now", x -> {
            fourRounds(x);
            for (int i = 0; i < 4; i++) {
                check.due("drag(" + i + ")", x.drag(i), 4);
            }
        });
        check.test("promise 16: all four, of whom none falls now", x -> {
            fourRounds(x);
            x.cash(3, 40);
            check.due("rounds()", x.rounds(), 0);
            check.due("drag(3)", x.drag(3), 4);
            check.due("drag(0)", x.drag(0), 0);
        });
        check.test("promise 16: with cash above 1000", x -> {
            above1000(x);
            x.owe(1, 2, 1);
            check.due("drag(1)", x.drag(1), 1);
            check.due("drag(0)", x.drag(0), 0);
            check.due("cashOf(1)", x.cashOf(1), 1050);
        });
        check.test("promise 16: those that fall anyway count, even where it stands", x -> {
            x.houses(2);
            x.owe(1, 2, 1);
            check.due("drag(0)", x.drag(0), 1);
        });
        check.test("promise 16: nothing has changed, and the clearing is told as before", x -> {
            fourRounds(x);
            x.cash(3, 40);
            long before = x.digest();
            x.drag(3);
            check.due("digest()", x.digest(), before);
            check.due("share(3, 1)", x.share(3, 1), 1);
            check.due("falls(0)", x.falls(0), 0);
        });
    }

    private static void help(Check check) {
        check.test("promise 17: 0 where none falls", x -> {
            full(x, 50);
            for (int i = 0; i < 4; i++) {
                check.due("help(" + i + ")", x.help(i), 0);
            }
        });
        check.test("promise 17: 1, the least above 0", x -> {
            full(x, 50);
            x.cash(2, 49);
            check.due("help(2)", x.help(2), 1);
            check.due("help(1)", x.help(1), NONE);
        });
        check.test("promise 17: the number told is enough, and one less is not", x -> {
            full(x, 50);
            x.cash(2, 13);
            x.toll(4);
            int needed = x.help(2);
            x.cash(2, 13 + needed - 1);
            check.due("rounds() with one less", x.rounds() > 0 ? 1 : 0, 1);
            x.cash(2, 13 + needed);
            check.due("rounds() with as much", x.rounds(), 0);
        });
        check.test("promise 17: NONE, where two fall by themselves", x -> {
            full(x, 50);
            x.cash(2, 49);
            x.cash(3, 49);
            for (int i = 0; i < 4; i++) {
                check.due("help(" + i + ")", x.help(i), NONE);
            }
        });
        check.test("promise 17: the first of a chain, but none that it drags along", x -> {
            fourRounds(x);
            check.due("help(3)", x.help(3), 40);
            check.due("help(2)", x.help(2), NONE);
            check.due("help(0)", x.help(0), NONE);
        });
        check.test("promise 17: 200, the most that can be lacked", x -> {
            x.houses(4);
            for (int j = 0; j <= 4; j++) {
                x.owe(3, j, 50);
            }
            check.due("help(3)", x.help(3), 200);
        });
        check.test("promise 17: 0 with the most cash, and above it", x -> {
            above1000(x);
            check.due("help(1)", x.help(1), 0);
            x.cash(1, 1000);
            check.due("help(1)", x.help(1), 0);
        });
    }

    private static void best(Check check) {
        check.test("promise 18: of one house", x -> {
            x.owe(0, 1, 50);
            check.due("best()", x.best(), 0);
        });
        check.test("promise 18: like ones, the least number", x -> {
            x.houses(4);
            check.due("best()", x.best(), 0);
        });
        check.test("promise 18: the last house, where all others are NONE", x -> {
            full(x, 50);
            x.cash(3, 0);
            check.due("help(0)", x.help(0), NONE);
            check.due("best()", x.best(), 3);
        });
        check.test("promise 18: NONE, where all are NONE", x -> {
            full(x, 50);
            x.cash(0, 49);
            x.cash(3, 49);
            check.due("best()", x.best(), NONE);
        });
    }

    private static void refusals(Check check) {
        check.test("promises 9, 16, 17: unknown houses", x -> {
            x.houses(3);
            for (int i : NO_HOUSES) {
                check.due("falls(" + i + ")", x.falls(i), UNKNOWN);
                check.due("drag(" + i + ")", x.drag(i), UNKNOWN);
                check.due("help(" + i + ")", x.help(i), UNKNOWN);
            }
        });
        check.test("promises 11, 12, 14: unknown houses, whatever the part", x -> {
            x.houses(3);
            for (int i : NO_HOUSES) {
                for (int part : new int[] {0, 1, 2, -1}) {
                    check.due("share(" + i + ", " + part + ")", x.share(i, part), UNKNOWN);
                    check.due("gross(" + i + ", " + part + ")", x.gross(i, part), UNKNOWN);
                    check.due("left(" + i + ", " + part + ")", x.left(i, part), UNKNOWN);
                }
            }
        });
        check.test("promises 11 to 14: no such part", x -> {
            x.houses(3);
            for (int part : NO_PARTS) {
                check.due("share(2, " + part + ")", x.share(2, part), OUTSIDE);
                check.due("gross(2, " + part + ")", x.gross(2, part), OUTSIDE);
                check.due("pays(2, 3, " + part + ")", x.pays(2, 3, part), OUTSIDE);
                check.due("left(2, " + part + ")", x.left(2, part), OUTSIDE);
            }
        });
        check.test("promises 9 to 18: neither answers nor refusals change anything", x -> {
            fourRounds(x);
            x.toll(3);
            long before = x.digest();
            for (int i = -1; i <= 5; i++) {
                x.falls(i);
                x.drag(i);
                x.help(i);
                for (int part = -1; part <= 2; part++) {
                    x.share(i, part);
                    x.gross(i, part);
                    x.left(i, part);
                    x.pays(i, 4, part);
                    x.lost(part);
                }
            }
            x.rounds();
            x.best();
            check.due("digest()", x.digest(), before);
        });
    }

    /** 0 and 1 fall, and pay 2 a third of 10 and two thirds of it: as much as it owes. */
    private static void twoThirds(WhoPays x) {
        x.houses(3);
        x.cash(0, 10);
        x.owe(0, 2, 10);
        x.owe(0, 3, 20);
        x.cash(1, 20);
        x.owe(1, 2, 10);
        x.owe(1, 3, 20);
        x.owe(2, 3, 10);
    }

    /** 3 falls first, then 2, 1 and 0. */
    private static void fourRounds(WhoPays x) {
        x.houses(4);
        x.owe(3, 2, 40);
        x.owe(2, 1, 40);
        x.owe(1, 0, 40);
        x.owe(0, 4, 40);
    }

    /** Four houses, every debt 50, all with the same cash. */
    private static void full(WhoPays x, int cash) {
        x.houses(4);
        for (int i = 0; i < 4; i++) {
            x.cash(i, cash);
            for (int j = 0; j <= 4; j++) {
                x.owe(i, j, 50);
            }
        }
    }

    /** Of two houses the second one has 1050, and nothing is owed. */
    private static void above1000(WhoPays x) {
        x.houses(2);
        x.cash(0, 50);
        x.cash(1, 1000);
        x.owe(0, 1, 50);
        x.day();
    }

    /** All four fall; their fractions stand over numbers of 13 and 14 figures. */
    private static void greatNumbers(WhoPays x) {
        x.houses(4);
        x.toll(3);
        int[] cash = {29, 25, 28, 28};
        int[][] debts = {{0, 50, 50, 49, 48}, {46, 0, 49, 48, 48}, {48, 45, 0, 46, 48}, {50, 46, 50, 0, 49}};
        for (int i = 0; i < 4; i++) {
            x.cash(i, cash[i]);
            for (int j = 0; j <= 4; j++) {
                x.owe(i, j, debts[i][j]);
            }
        }
    }
}
