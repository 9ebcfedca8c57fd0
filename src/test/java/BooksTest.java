/** Promises 1 to 8. */
public final class BooksTest {
    public static void main(String[] args) {
        Check check = new Check("BooksTest");
        check.test("promise 1: one house, all 0", x -> {
            check.due("n", x.count(0), 1);
            for (int what = 1; what <= 6; what++) {
                check.due("count(" + what + ")", x.count(what), 0);
            }
            check.due("cashOf(0)", x.cashOf(0), 0);
            check.due("cashOf(1)", x.cashOf(1), -101);
            check.due("debt(0, 1)", x.debt(0, 1), 0);
        });
        check.test("promise 2: houses answers n, all 0 again", x -> {
            check.due("houses(4)", x.houses(4), 4);
            fill(x, 4);
            x.toll(3);
            x.day();
            check.due("houses(3)", x.houses(3), 3);
            check.due("n", x.count(0), 3);
            for (int what = 1; what <= 6; what++) {
                check.due("count(" + what + ")", x.count(what), 0);
            }
            check.due("houses(4)", x.houses(4), 4);
            for (int i = 0; i < 4; i++) {
                check.due("cashOf", x.cashOf(i), 0);
                for (int j = 0; j <= 4; j++) {
                    check.due("debt", x.debt(i, j), 0);
                }
            }
            check.due("rings()", x.rings(), 0);
        });
        check.test("promise 2: the same number of houses begins anew too", x -> {
            x.houses(2);
            x.cash(0, 9);
            x.owe(0, 2, 5);
            x.day();
            check.due("houses(2)", x.houses(2), 2);
            check.due("cashOf(0)", x.cashOf(0), 0);
            check.due("count(6)", x.count(6), 0);
        });
        check.test("promise 2: refusals change nothing", x -> {
            x.houses(2);
            x.cash(1, 7);
            x.owe(0, 1, 8);
            x.toll(4);
            long before = x.digest();
            for (int n : new int[] {0, 5, -1, 1000, Integer.MIN_VALUE, Integer.MAX_VALUE}) {
                check.due("houses(" + n + ")", x.houses(n), -102);
            }
            check.due("digest()", x.digest(), before);
        });
        check.test("promise 3: cash", x -> {
            x.houses(2);
            check.due("cash(1, 1000)", x.cash(1, 1000), 0);
            check.due("cash(1, 0)", x.cash(1, 0), 1000);
            check.due("cash(1, 5)", x.cash(1, 5), 0);
            check.due("cash(1, 1001)", x.cash(1, 1001), -102);
            check.due("cash(1, -1)", x.cash(1, -1), -102);
            check.due("cash(2, 1)", x.cash(2, 1), -101);
            check.due("cash(-1, 1)", x.cash(-1, 1), -101);
            check.due("cash(2, -1)", x.cash(2, -1), -101);
            check.due("cashOf(0)", x.cashOf(0), 0);
            check.due("cashOf(1)", x.cashOf(1), 5);
        });
        check.test("promise 3: what it was may stand above 1000", x -> {
            x.houses(2);
            x.cash(0, 1000);
            x.cash(1, 1000);
            x.owe(0, 1, 50);
            x.day();
            check.due("cash(1, 1)", x.cash(1, 1), 1050);
            check.due("cashOf(1)", x.cashOf(1), 1);
        });
        check.test("promise 4: owe", x -> {
            x.houses(3);
            check.due("owe(0, 1, 50)", x.owe(0, 1, 50), 0);
            check.due("owe(0, 1, 0)", x.owe(0, 1, 0), 50);
            check.due("owe(0, 3, 12)", x.owe(0, 3, 12), 0);
            check.due("owe(0, 3, 13)", x.owe(0, 3, 13), 12);
            check.due("owe(2, 1, 51)", x.owe(2, 1, 51), -102);
            check.due("owe(2, 1, -1)", x.owe(2, 1, -1), -102);
            check.due("owe(2, 2, 0)", x.owe(2, 2, 0), -102);
            check.due("owe(3, 1, 1)", x.owe(3, 1, 1), -101);
            check.due("owe(3, 3, 1)", x.owe(3, 3, 1), -101);
            check.due("owe(0, 4, 1)", x.owe(0, 4, 1), -101);
            check.due("owe(0, 4, 99)", x.owe(0, 4, 99), -101);
            check.due("owe(-1, 0, 1)", x.owe(-1, 0, 1), -101);
            check.due("owe(0, -1, 1)", x.owe(0, -1, 1), -101);
            check.due("owe(-1, -1, 99)", x.owe(-1, -1, 99), -101);
            check.due("all debts", x.count(3), 13);
        });
        check.test("promise 5: toll", x -> {
            check.due("toll(5)", x.toll(5), 0);
            check.due("toll(0)", x.toll(0), 5);
            check.due("toll(2)", x.toll(2), 0);
            check.due("toll(6)", x.toll(6), -102);
            check.due("toll(-1)", x.toll(-1), -102);
            check.due("toll(1)", x.toll(1), 2);
        });
        check.test("promise 6: cashOf", x -> {
            x.houses(4);
            x.cash(3, 77);
            check.due("cashOf(3)", x.cashOf(3), 77);
            check.due("cashOf(2)", x.cashOf(2), 0);
            check.due("cashOf(4)", x.cashOf(4), -101);
            check.due("cashOf(-1)", x.cashOf(-1), -101);
        });
        check.test("promise 7: debt", x -> {
            for (int n = 1; n <= 4; n++) {
                x.houses(n);
                fill(x, n);
                for (int i = 0; i < n; i++) {
                    for (int j = 0; j <= n; j++) {
                        check.due("debt(" + i + ", " + j + ")", x.debt(i, j), i == j ? 0 : 10 * i + j + 1);
                    }
                    check.due("debt(i, n + 1)", x.debt(i, n + 1), -101);
                    check.due("debt(i, -1)", x.debt(i, -1), -101);
                }
                check.due("debt(n, 0)", x.debt(n, 0), -101);
                check.due("debt(-1, 0)", x.debt(-1, 0), -101);
            }
        });
        check.test("promise 8: owes", x -> {
            x.houses(3);
            fill(x, 3);
            check.due("owes(0)", x.owes(0), 2 + 3 + 4);
            check.due("owes(1)", x.owes(1), 11 + 13 + 14);
            check.due("owes(2)", x.owes(2), 21 + 22 + 24);
            check.due("owes(3)", x.owes(3), -101);
            check.due("owes(-1)", x.owes(-1), -101);
        });
        check.end();
    }

    private static void fill(WhoPays x, int n) {
        for (int i = 0; i < n; i++) {
            x.cash(i, 100 + i);
            for (int j = 0; j <= n; j++) {
                x.owe(i, j, 10 * i + j + 1);
            }
        }
    }
}
