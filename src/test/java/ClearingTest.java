/** Promises 9 to 18. */
public final class ClearingTest {
    public static void main(String[] args) {
        Check check = new Check("ClearingTest");
        check.test("promise 9: falls in the round that it falls in", x -> {
            chain(x);
            check.due("falls(0)", x.falls(0), 1);
            check.due("falls(1)", x.falls(1), 2);
            check.due("falls(2)", x.falls(2), 3);
            check.due("falls(3)", x.falls(3), 0);
            check.due("falls(4)", x.falls(4), -101);
            check.due("falls(-1)", x.falls(-1), -101);
        });
        check.test("promise 9: as much as is owed is enough, one less is not", x -> {
            x.owe(0, 1, 50);
            x.cash(0, 50);
            check.due("falls(0)", x.falls(0), 0);
            x.cash(0, 49);
            check.due("falls(0)", x.falls(0), 1);
        });
        check.test("promise 9: two fall in one round", x -> {
            x.houses(2);
            x.owe(0, 2, 9);
            x.owe(1, 2, 9);
            check.due("falls(0)", x.falls(0), 1);
            check.due("falls(1)", x.falls(1), 1);
        });
        check.test("promise 10: rounds", x -> {
            check.due("rounds() when new", x.rounds(), 0);
            chain(x);
            check.due("rounds()", x.rounds(), 3);
            x.cash(0, 40);
            check.due("rounds() when none falls", x.rounds(), 0);
        });
        check.test("promise 10: four rounds", x -> {
            x.houses(4);
            x.owe(0, 1, 40);
            x.owe(1, 2, 40);
            x.owe(2, 3, 40);
            x.owe(3, 4, 40);
            check.due("rounds()", x.rounds(), 4);
            check.due("falls(3)", x.falls(3), 4);
        });
        check.test("promise 11: share", x -> {
            x.houses(2);
            x.cash(0, 30);
            x.owe(0, 1, 25);
            x.owe(0, 2, 15);
            x.owe(1, 0, 5);
            x.cash(1, 100);
            check.fraction("share(0)", x.share(0, 0), x.share(0, 1), 7, 8);
            check.fraction("share(1)", x.share(1, 0), x.share(1, 1), 1, 1);
            x.toll(1);
            check.fraction("share(0), a tenth lost", x.share(0, 0), x.share(0, 1), 63, 80);
            x.toll(5);
            check.fraction("share(0), five tenths lost", x.share(0, 0), x.share(0, 1), 7, 16);
            x.cash(0, 0);
            x.owe(1, 0, 0);
            check.fraction("share(0) of nothing", x.share(0, 0), x.share(0, 1), 0, 1);
        });
        check.test("promise 11: two fallen ones that pay one another", x -> {
            x.houses(2);
            x.cash(0, 6);
            x.owe(0, 1, 10);
            x.owe(0, 2, 20);
            x.owe(1, 0, 10);
            x.owe(1, 2, 10);
            // 30 a = 6 + 10 b, 20 b = 10 a
            check.fraction("share(0)", x.share(0, 0), x.share(0, 1), 6, 25);
            check.fraction("share(1)", x.share(1, 0), x.share(1, 1), 3, 25);
        });
        check.test("promise 11: refusals", x -> {
            check.due("share(1, 0)", x.share(1, 0), -101);
            check.due("share(-1, 0)", x.share(-1, 0), -101);
            check.due("share(1, 7)", x.share(1, 7), -101);
            check.due("share(0, 2)", x.share(0, 2), -102);
            check.due("share(0, -1)", x.share(0, -1), -102);
        });
        check.test("promise 12: gross", x -> {
            chain(x);
            check.fraction("gross(0)", x.gross(0, 0), x.gross(0, 1), 20, 1);
            check.fraction("gross(1)", x.gross(1, 0), x.gross(1, 1), 20, 1);
            check.fraction("gross(3)", x.gross(3, 0), x.gross(3, 1), 320, 3);
            check.due("gross(4, 0)", x.gross(4, 0), -101);
            check.due("gross(4, 2)", x.gross(4, 2), -101);
            check.due("gross(-1, 0)", x.gross(-1, 0), -101);
            check.due("gross(0, 2)", x.gross(0, 2), -102);
            check.due("gross(0, -1)", x.gross(0, -1), -102);
            x.toll(5);
            check.fraction("gross(0), before the toll", x.gross(0, 0), x.gross(0, 1), 20, 1);
        });
        check.test("promise 13: pays", x -> {
            x.houses(2);
            x.cash(0, 20);
            x.owe(0, 1, 20);
            x.owe(0, 2, 50);
            check.fraction("pays(0, 1)", x.pays(0, 1, 0), x.pays(0, 1, 1), 40, 7);
            check.fraction("pays(0, 2)", x.pays(0, 2, 0), x.pays(0, 2, 1), 100, 7);
            check.fraction("pays(0, 0)", x.pays(0, 0, 0), x.pays(0, 0, 1), 0, 1);
            check.fraction("pays(1, 0)", x.pays(1, 0, 0), x.pays(1, 0, 1), 0, 1);
            check.due("pays(2, 0, 0)", x.pays(2, 0, 0), -101);
            check.due("pays(0, 3, 0)", x.pays(0, 3, 0), -101);
            check.due("pays(0, -1, 5)", x.pays(0, -1, 5), -101);
            check.due("pays(-1, 0, 5)", x.pays(-1, 0, 5), -101);
            check.due("pays(0, 1, 2)", x.pays(0, 1, 2), -102);
            check.due("pays(0, 1, -1)", x.pays(0, 1, -1), -102);
            x.cash(0, 1000);
            check.fraction("pays(0, 2) whole", x.pays(0, 2, 0), x.pays(0, 2, 1), 50, 1);
        });
        check.test("promise 14: left", x -> {
            chain(x);
            check.fraction("left(0)", x.left(0, 0), x.left(0, 1), 0, 1);
            check.fraction("left(3)", x.left(3, 0), x.left(3, 1), 170, 3);
            check.due("left(4, 0)", x.left(4, 0), -101);
            check.due("left(-1, 9)", x.left(-1, 9), -101);
            check.due("left(0, 2)", x.left(0, 2), -102);
            check.due("left(0, -1)", x.left(0, -1), -102);
        });
        check.test("promise 15: lost", x -> {
            x.houses(2);
            x.cash(0, 7);
            x.owe(0, 1, 10);
            x.owe(1, 2, 10);
            x.cash(1, 1);
            check.fraction("lost without toll", x.lost(0), x.lost(1), 0, 1);
            x.toll(3);
            // 7, and 1 and 4.9
            check.fraction("lost", x.lost(0), x.lost(1), 387, 100);
            check.due("lost(2)", x.lost(2), -102);
            check.due("lost(-1)", x.lost(-1), -102);
            x.cash(0, 10);
            check.fraction("lost, none fallen", x.lost(0), x.lost(1), 0, 1);
        });
        check.test("promise 16: drag", x -> {
            x.houses(4);
            x.cash(0, 60);
            x.owe(0, 1, 40);
            x.owe(1, 2, 40);
            x.owe(2, 4, 40);
            x.owe(3, 4, 1);
            x.cash(2, 40);
            check.due("drag(0), with the one fallen now", x.drag(0), 3);
            check.due("drag(1)", x.drag(1), 1);
            check.due("drag(2)", x.drag(2), 1);
            check.due("drag(3)", x.drag(3), 1);
            check.due("drag(4)", x.drag(4), -101);
            check.due("drag(-1)", x.drag(-1), -101);
            check.due("cashOf(0) stays", x.cashOf(0), 60);
            check.due("falls(0) after", x.falls(0), 0);
            x.cash(2, 0);
            check.due("drag(0)", x.drag(0), 4);
        });
        check.test("promise 17: help", x -> {
            chain(x);
            check.due("help(0)", x.help(0), 20);
            check.due("help(1): another falls alone", x.help(1), -1);
            check.due("help(3)", x.help(3), -1);
            check.due("help(4)", x.help(4), -101);
            check.due("help(-1)", x.help(-1), -101);
            x.cash(0, 39);
            check.due("help(0)", x.help(0), 1);
            x.cash(0, 40);
            check.due("help(0)", x.help(0), 0);
            check.due("help(3)", x.help(3), 0);
        });
        check.test("promise 17: another one lacks 1", x -> {
            x.houses(2);
            x.owe(0, 2, 5);
            x.owe(1, 2, 5);
            x.cash(1, 4);
            check.due("help(0)", x.help(0), -1);
            x.cash(1, 5);
            check.due("help(0)", x.help(0), 5);
        });
        check.test("promise 17: toll and cash stay as they are", x -> {
            x.houses(2);
            x.toll(5);
            x.owe(0, 1, 20);
            x.cash(0, 3);
            check.due("help(0)", x.help(0), 17);
            check.due("cashOf(0)", x.cashOf(0), 3);
            check.due("count(1)", x.count(1), 5);
        });
        check.test("promise 17: the most that can be needed", x -> {
            x.houses(4);
            for (int j = 1; j <= 4; j++) {
                x.owe(0, j, 50);
            }
            check.due("help(0)", x.help(0), 200);
        });
        check.test("promise 18: best", x -> {
            x.houses(3);
            check.due("best() of like ones", x.best(), 0);
            x.owe(2, 3, 5);
            check.due("best(), the one that falls", x.best(), 2);
            x.owe(1, 3, 5);
            check.due("best(), two fall alone", x.best(), -1);
            x.cash(1, 5);
            x.cash(2, 5);
            check.due("best() of none needed", x.best(), 0);
        });
        check.end();
    }

    /** 0 falls, and drags 1 and 2 along, but not 3. */
    private static void chain(WhoPays x) {
        x.houses(4);
        x.cash(0, 20);
        x.owe(0, 1, 40);
        x.owe(1, 2, 40);
        x.cash(2, 20);
        x.owe(2, 3, 40);
        x.owe(2, 4, 20);
        x.cash(3, 80);
        x.owe(3, 4, 50);
    }
}
