/** The boundary cases of promises 1 to 8, each by itself. */
public final class BooksEdgesTest {
    private static final int UNKNOWN = -101;
    private static final int OUTSIDE = -102;
    private static final int LEAST = Integer.MIN_VALUE;
    private static final int MOST = Integer.MAX_VALUE;

    public static void main(String[] args) {
        Check check = new Check("BooksEdgesTest");
        newObjects(check);
        houses(check);
        housesBeginAnew(check);
        cash(check);
        owe(check);
        owePayees(check);
        toll(check);
        cashOf(check);
        debt(check);
        owes(check);
        check.end();
    }

    private static void newObjects(Check check) {
        check.test("promise 1: one house, and no second one", x -> {
            check.due("cashOf(0)", x.cashOf(0), 0);
            check.due("cashOf(1)", x.cashOf(1), UNKNOWN);
            check.due("owes(1)", x.owes(1), UNKNOWN);
        });
        check.test("promise 1: outside is told as 1", x -> {
            check.due("owe(0, 1, 3)", x.owe(0, 1, 3), 0);
            check.due("count(4)", x.count(4), 3);
            check.due("owe(0, 2, 3)", x.owe(0, 2, 3), UNKNOWN);
        });
        check.test("promise 1: the toll is 0 at first", x -> {
            check.due("toll(0)", x.toll(0), 0);
        });
        check.test("promise 1: nothing to clear, to cancel or to pay", x -> {
            check.due("rounds()", x.rounds(), 0);
            check.due("rings()", x.rings(), 0);
            check.due("cancelAll()", x.cancelAll(), 0);
            check.due("day()", x.day(), 0);
        });
        check.test("promise 1: two objects share nothing", x -> {
            WhoPays other = new WhoPays();
            other.houses(2);
            other.toll(3);
            other.cash(0, 40);
            other.owe(0, 2, 30);
            other.day();
            for (int what = 1; what <= 6; what++) {
                check.due("count(" + what + ")", x.count(what), 0);
            }
            check.due("n", x.count(0), 1);
            x.houses(4);
            check.due("n of the other", other.count(0), 2);
            check.due("cash of the other", other.cashOf(0), 10);
        });
    }

    private static void houses(Check check) {
        check.test("promise 2: 1 is the least", x -> {
            check.due("houses(1)", x.houses(1), 1);
            check.due("n", x.count(0), 1);
        });
        check.test("promise 2: 0 is too small", x -> {
            x.houses(2);
            check.due("houses(0)", x.houses(0), OUTSIDE);
            check.due("n", x.count(0), 2);
        });
        check.test("promise 2: 4 is the most", x -> {
            check.due("houses(4)", x.houses(4), 4);
            check.due("cashOf(3)", x.cashOf(3), 0);
            check.due("cashOf(4)", x.cashOf(4), UNKNOWN);
        });
        check.test("promise 2: 5 is too large", x -> {
            x.houses(2);
            check.due("houses(5)", x.houses(5), OUTSIDE);
            check.due("n", x.count(0), 2);
        });
        check.test("promise 2: numbers far off, below 0 and above", x -> {
            for (int n : new int[] {LEAST, -102, -4, -1, 256, 65537, MOST}) {
                check.due("houses(" + n + ")", x.houses(n), OUTSIDE);
            }
            check.due("n", x.count(0), 1);
        });
        check.test("promise 2: a refusal leaves the books as they are", x -> {
            busy(x);
            long before = x.digest();
            x.houses(5);
            x.houses(0);
            check.due("digest()", x.digest(), before);
            check.due("count(6)", x.count(6), 6);
        });
    }

    private static void housesBeginAnew(Check check) {
        check.test("promise 2: all cash is 0", x -> {
            busy(x);
            x.houses(4);
            for (int i = 0; i < 4; i++) {
                check.due("cashOf(" + i + ")", x.cashOf(i), 0);
            }
        });
        check.test("promise 2: all debts are 0, to outside too", x -> {
            busy(x);
            x.houses(4);
            for (int i = 0; i < 4; i++) {
                for (int j = 0; j <= 4; j++) {
                    check.due("debt(" + i + ", " + j + ")", x.debt(i, j), 0);
                }
            }
        });
        check.test("promise 2: the toll is 0", x -> {
            busy(x);
            x.houses(4);
            check.due("count(1)", x.count(1), 0);
        });
        check.test("promise 2: what was paid to outside is 0", x -> {
            busy(x);
            x.houses(4);
            check.due("count(6)", x.count(6), 0);
        });
        check.test("promise 2: with fewer, those above are unknown, and outside is told as n", x -> {
            busy(x);
            x.houses(2);
            check.due("cash(2, 1)", x.cash(2, 1), UNKNOWN);
            check.due("owe(2, 0, 1)", x.owe(2, 0, 1), UNKNOWN);
            check.due("owe(0, 3, 1)", x.owe(0, 3, 1), UNKNOWN);
            check.due("owe(0, 2, 9)", x.owe(0, 2, 9), 0);
            check.due("count(4)", x.count(4), 9);
        });
        check.test("promise 2: with more again, nothing of before comes back", x -> {
            busy(x);
            x.houses(1);
            x.houses(4);
            for (int what = 1; what <= 6; what++) {
                check.due("count(" + what + ")", x.count(what), 0);
            }
            check.due("rings()", x.rings(), 0);
            check.due("rounds()", x.rounds(), 0);
        });
        check.test("promise 2: what was owed to outside is not owed to the new house of that number", x -> {
            x.owe(0, 1, 9);
            x.houses(2);
            check.due("debt(0, 1)", x.debt(0, 1), 0);
            check.due("debt(0, 2)", x.debt(0, 2), 0);
        });
    }

    private static void cash(Check check) {
        check.test("promise 3: 0 is the least", x -> {
            x.cash(0, 3);
            check.due("cash(0, 0)", x.cash(0, 0), 3);
            check.due("cashOf(0)", x.cashOf(0), 0);
        });
        check.test("promise 3: -1 is too small", x -> {
            x.cash(0, 3);
            check.due("cash(0, -1)", x.cash(0, -1), OUTSIDE);
            check.due("cashOf(0)", x.cashOf(0), 3);
        });
        check.test("promise 3: 1000 is the most", x -> {
            check.due("cash(0, 1000)", x.cash(0, 1000), 0);
            check.due("cashOf(0)", x.cashOf(0), 1000);
        });
        check.test("promise 3: 1001 is too large", x -> {
            x.cash(0, 3);
            check.due("cash(0, 1001)", x.cash(0, 1001), OUTSIDE);
            check.due("cashOf(0)", x.cashOf(0), 3);
        });
        check.test("promise 3: cash far off", x -> {
            check.due("cash(0, least)", x.cash(0, LEAST), OUTSIDE);
            check.due("cash(0, most)", x.cash(0, MOST), OUTSIDE);
            check.due("cashOf(0)", x.cashOf(0), 0);
        });
        check.test("promise 3: the last house is known, outside is not", x -> {
            x.houses(3);
            check.due("cash(2, 4)", x.cash(2, 4), 0);
            check.due("cash(3, 4)", x.cash(3, 4), UNKNOWN);
            check.due("count(2)", x.count(2), 4);
        });
        check.test("promise 3: houses far off", x -> {
            for (int i : new int[] {LEAST, -102, -101, -1, 1, 4, 5, MOST}) {
                check.due("cash(" + i + ", 7)", x.cash(i, 7), UNKNOWN);
            }
            check.due("count(2)", x.count(2), 0);
        });
        check.test("promise 3: of both refusals the first", x -> {
            check.due("cash(1, 1001)", x.cash(1, 1001), UNKNOWN);
            check.due("cash(-1, -1)", x.cash(-1, -1), UNKNOWN);
        });
        check.test("promise 3: it becomes v, it does not grow by v", x -> {
            x.cash(0, 10);
            check.due("cash(0, 10)", x.cash(0, 10), 10);
            check.due("cashOf(0)", x.cashOf(0), 10);
        });
        check.test("promise 3: what days brought above 1000 is told, and gives way", x -> {
            above1000(x);
            check.due("cash(1, 1000)", x.cash(1, 1000), 1050);
            check.due("cashOf(1)", x.cashOf(1), 1000);
        });
        check.test("promise 3: what days brought above 1000 stays when refused", x -> {
            above1000(x);
            check.due("cash(1, 1050)", x.cash(1, 1050), OUTSIDE);
            check.due("cashOf(1)", x.cashOf(1), 1050);
        });
    }

    private static void owe(Check check) {
        check.test("promise 4: 0 is the least", x -> {
            x.owe(0, 1, 3);
            check.due("owe(0, 1, 0)", x.owe(0, 1, 0), 3);
            check.due("debt(0, 1)", x.debt(0, 1), 0);
        });
        check.test("promise 4: -1 is too small", x -> {
            x.owe(0, 1, 3);
            check.due("owe(0, 1, -1)", x.owe(0, 1, -1), OUTSIDE);
            check.due("debt(0, 1)", x.debt(0, 1), 3);
        });
        check.test("promise 4: 50 is the most", x -> {
            check.due("owe(0, 1, 50)", x.owe(0, 1, 50), 0);
            check.due("debt(0, 1)", x.debt(0, 1), 50);
        });
        check.test("promise 4: 51 is too large", x -> {
            x.owe(0, 1, 3);
            check.due("owe(0, 1, 51)", x.owe(0, 1, 51), OUTSIDE);
            check.due("debt(0, 1)", x.debt(0, 1), 3);
        });
        check.test("promise 4: debts far off", x -> {
            check.due("owe(0, 1, least)", x.owe(0, 1, LEAST), OUTSIDE);
            check.due("owe(0, 1, most)", x.owe(0, 1, MOST), OUTSIDE);
            check.due("owes(0)", x.owes(0), 0);
        });
        check.test("promise 4: all debts full", x -> {
            x.houses(4);
            for (int i = 0; i < 4; i++) {
                for (int j = 0; j <= 4; j++) {
                    check.due("owe(" + i + ", " + j + ", 50)", x.owe(i, j, 50), i == j ? OUTSIDE : 0);
                }
            }
            check.due("count(3)", x.count(3), 16 * 50);
        });
    }

    private static void owePayees(Check check) {
        check.test("promise 4: i outside is unknown", x -> {
            x.houses(2);
            check.due("owe(2, 0, 1)", x.owe(2, 0, 1), UNKNOWN);
            check.due("count(3)", x.count(3), 0);
        });
        check.test("promise 4: j outside is known, one more is not", x -> {
            x.houses(2);
            check.due("owe(1, 2, 6)", x.owe(1, 2, 6), 0);
            check.due("owe(1, 2, 7)", x.owe(1, 2, 7), 6);
            check.due("owe(1, 3, 1)", x.owe(1, 3, 1), UNKNOWN);
            check.due("count(4)", x.count(4), 7);
        });
        check.test("promise 4: j of four houses: 4 is outside, 5 is unknown", x -> {
            x.houses(4);
            check.due("owe(3, 4, 6)", x.owe(3, 4, 6), 0);
            check.due("owe(3, 5, 6)", x.owe(3, 5, 6), UNKNOWN);
            check.due("count(4)", x.count(4), 6);
            check.due("count(3)", x.count(3), 6);
        });
        check.test("promise 4: houses far off", x -> {
            x.houses(4);
            for (int k : new int[] {LEAST, -102, -101, -1, 5, 6, 20, MOST}) {
                check.due("owe(" + k + ", 0, 1)", x.owe(k, 0, 1), UNKNOWN);
                check.due("owe(0, " + k + ", 1)", x.owe(0, k, 1), UNKNOWN);
                check.due("owe(" + k + ", " + k + ", 1)", x.owe(k, k, 1), UNKNOWN);
            }
            check.due("count(3)", x.count(3), 0);
        });
        check.test("promise 4: nobody owes itself, not even 0", x -> {
            x.houses(3);
            for (int i = 0; i < 3; i++) {
                check.due("owe(i, i, 5)", x.owe(i, i, 5), OUTSIDE);
                check.due("owe(i, i, 0)", x.owe(i, i, 0), OUTSIDE);
                check.due("owe(i, i, 51)", x.owe(i, i, 51), OUTSIDE);
            }
            check.due("count(3)", x.count(3), 0);
        });
        check.test("promise 4: of several refusals the first", x -> {
            x.houses(2);
            check.due("i unknown, v too large", x.owe(2, 0, 51), UNKNOWN);
            check.due("j unknown, v too large", x.owe(0, 3, 51), UNKNOWN);
            check.due("j unknown, v too small", x.owe(0, -1, -1), UNKNOWN);
            check.due("i is j, unknown", x.owe(2, 2, 51), UNKNOWN);
        });
        check.test("promise 4: the other way is another debt", x -> {
            x.houses(2);
            x.owe(0, 1, 4);
            check.due("debt(1, 0)", x.debt(1, 0), 0);
            check.due("owe(1, 0, 5)", x.owe(1, 0, 5), 0);
            check.due("debt(0, 1)", x.debt(0, 1), 4);
        });
    }

    private static void toll(Check check) {
        check.test("promise 5: 0 is the least", x -> {
            x.toll(2);
            check.due("toll(0)", x.toll(0), 2);
            check.due("count(1)", x.count(1), 0);
        });
        check.test("promise 5: -1 is too small", x -> {
            x.toll(2);
            check.due("toll(-1)", x.toll(-1), OUTSIDE);
            check.due("count(1)", x.count(1), 2);
        });
        check.test("promise 5: 5 is the most", x -> {
            check.due("toll(5)", x.toll(5), 0);
            check.due("count(1)", x.count(1), 5);
        });
        check.test("promise 5: 6 is too large", x -> {
            x.toll(2);
            check.due("toll(6)", x.toll(6), OUTSIDE);
            check.due("count(1)", x.count(1), 2);
        });
        check.test("promise 5: tolls far off", x -> {
            for (int v : new int[] {LEAST, -102, 10, 100, MOST}) {
                check.due("toll(" + v + ")", x.toll(v), OUTSIDE);
            }
            check.due("count(1)", x.count(1), 0);
        });
    }

    private static void cashOf(Check check) {
        check.test("promise 6: of the first and of the last house", x -> {
            x.houses(4);
            x.cash(0, 1000);
            x.cash(3, 1);
            check.due("cashOf(0)", x.cashOf(0), 1000);
            check.due("cashOf(3)", x.cashOf(3), 1);
        });
        check.test("promise 6: above 1000", x -> {
            above1000(x);
            check.due("cashOf(1)", x.cashOf(1), 1050);
        });
        check.test("promise 6: outside is unknown, and so is what is far off", x -> {
            x.houses(2);
            for (int i : new int[] {LEAST, -1, 2, 3, 4, MOST}) {
                check.due("cashOf(" + i + ")", x.cashOf(i), UNKNOWN);
            }
        });
    }

    private static void debt(Check check) {
        check.test("promise 7: 0 to itself", x -> {
            x.houses(4);
            for (int i = 0; i < 4; i++) {
                x.owe(i, (i + 1) % 4, 5);
                check.due("debt(i, i)", x.debt(i, i), 0);
            }
        });
        check.test("promise 7: to outside, told as n", x -> {
            for (int n = 1; n <= 4; n++) {
                x.houses(n);
                x.owe(n - 1, n, 40 + n);
                check.due("debt(n - 1, n)", x.debt(n - 1, n), 40 + n);
            }
        });
        check.test("promise 7: i outside is unknown", x -> {
            x.houses(2);
            check.due("debt(2, 0)", x.debt(2, 0), UNKNOWN);
            check.due("debt(2, 2)", x.debt(2, 2), UNKNOWN);
        });
        check.test("promise 7: houses far off", x -> {
            x.houses(4);
            for (int k : new int[] {LEAST, -102, -1, 5, 20, MOST}) {
                check.due("debt(" + k + ", 0)", x.debt(k, 0), UNKNOWN);
                check.due("debt(0, " + k + ")", x.debt(0, k), UNKNOWN);
                check.due("debt(" + k + ", " + k + ")", x.debt(k, k), UNKNOWN);
            }
        });
    }

    private static void owes(Check check) {
        check.test("promise 8: nothing", x -> {
            check.due("owes(0)", x.owes(0), 0);
        });
        check.test("promise 8: to outside alone", x -> {
            x.owe(0, 1, 50);
            check.due("owes(0)", x.owes(0), 50);
        });
        check.test("promise 8: the most, 200", x -> {
            x.houses(4);
            for (int j = 0; j <= 4; j++) {
                x.owe(3, j, 50);
            }
            check.due("owes(3)", x.owes(3), 200);
            check.due("owes(0)", x.owes(0), 0);
        });
        check.test("promise 8: outside is unknown, and so is what is far off", x -> {
            x.houses(3);
            for (int i : new int[] {LEAST, -1, 3, 4, MOST}) {
                check.due("owes(" + i + ")", x.owes(i), UNKNOWN);
            }
        });
    }

    /** Four houses, something in every place, 6 paid to outside. */
    private static void busy(WhoPays x) {
        x.houses(4);
        x.cash(0, 6);
        x.owe(0, 4, 6);
        x.day();
        x.toll(3);
        for (int i = 0; i < 4; i++) {
            x.cash(i, 10 + i);
            for (int j = 0; j <= 4; j++) {
                x.owe(i, j, 20 + 4 * i + j);
            }
        }
    }

    /** Of two houses the second one has 1050. */
    private static void above1000(WhoPays x) {
        x.houses(2);
        x.cash(0, 50);
        x.cash(1, 1000);
        x.owe(0, 1, 50);
        x.day();
    }
}
