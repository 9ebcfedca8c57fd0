/** Promises 19 to 23. */
public final class RingsTest {
    private static final int[] ALL = {
        12, 13, 14, 23, 24, 34, 123, 124, 132, 134, 142, 143, 234, 243,
        1234, 1243, 1324, 1342, 1423, 1432
    };

    public static void main(String[] args) {
        Check check = new Check("RingsTest");
        check.test("promise 19: net", x -> {
            x.houses(3);
            x.owe(0, 1, 10);
            x.owe(2, 1, 5);
            x.owe(1, 2, 3);
            x.owe(1, 3, 20);
            check.due("net(0)", x.net(0), -10);
            check.due("net(1)", x.net(1), -8);
            check.due("net(2)", x.net(2), -2);
            check.due("net(3)", x.net(3), -1000000);
            check.due("net(-1)", x.net(-1), -1000000);
        });
        check.test("promises 20, 21: all rings of four, in order", x -> {
            x.houses(4);
            everyPair(x, 4);
            check.due("rings()", x.rings(), ALL.length);
            for (int k = 0; k < ALL.length; k++) {
                check.due("ring(" + k + ")", x.ring(k), ALL[k]);
            }
            check.due("ring(20)", x.ring(20), -1);
            check.due("ring(-1)", x.ring(-1), -1);
            check.due("ring(least)", x.ring(Integer.MIN_VALUE), -1);
            check.due("ring(most)", x.ring(Integer.MAX_VALUE), -1);
        });
        check.test("promise 20: rings of fewer houses", x -> {
            check.due("rings() of one", x.rings(), 0);
            x.owe(0, 1, 5);
            check.due("rings() with outside", x.rings(), 0);
            x.houses(2);
            everyPair(x, 2);
            check.due("rings() of two", x.rings(), 1);
            x.houses(3);
            everyPair(x, 3);
            check.due("rings() of three", x.rings(), 5);
        });
        check.test("promise 21: each ring alone, told with its least house first", x -> {
            for (int ring : ALL) {
                x.houses(4);
                String figures = String.valueOf(ring);
                for (int k = 0; k < figures.length(); k++) {
                    int from = figures.charAt(k) - '1';
                    int to = figures.charAt((k + 1) % figures.length()) - '1';
                    x.owe(from, to, 1);
                }
                check.due("rings()", x.rings(), 1);
                check.due("ring(0)", x.ring(0), ring);
                check.due("ring(1)", x.ring(1), -1);
            }
        });
        check.test("promise 22: cancel", x -> {
            check.due("cancel() of none", x.cancel(), 0);
            x.houses(3);
            x.owe(0, 1, 9);
            x.owe(1, 2, 4);
            x.owe(2, 0, 6);
            x.owe(1, 0, 2);
            check.due("cancel(), the ring of two first", x.cancel(), 2);
            check.due("debt(0, 1)", x.debt(0, 1), 7);
            check.due("debt(1, 0)", x.debt(1, 0), 0);
            check.due("cancel(), of three", x.cancel(), 4);
            check.due("debt(0, 1)", x.debt(0, 1), 3);
            check.due("debt(1, 2)", x.debt(1, 2), 0);
            check.due("debt(2, 0)", x.debt(2, 0), 2);
            check.due("cancel(), none left", x.cancel(), 0);
            check.due("net(0)", x.net(0), -1);
        });
        check.test("promise 22: outside takes no part", x -> {
            x.houses(2);
            x.owe(0, 1, 50);
            x.owe(1, 0, 50);
            x.owe(0, 2, 7);
            check.due("cancel()", x.cancel(), 50);
            check.due("debt(0, 2)", x.debt(0, 2), 7);
            check.due("count(6)", x.count(6), 0);
        });
        check.test("promise 23: cancelAll", x -> {
            check.due("cancelAll() of none", x.cancelAll(), 0);
            x.houses(3);
            x.owe(0, 1, 9);
            x.owe(1, 2, 4);
            x.owe(2, 0, 6);
            x.owe(1, 0, 2);
            check.due("cancelAll()", x.cancelAll(), 2 * 2 + 3 * 4);
            check.due("rings()", x.rings(), 0);
            check.due("cancelAll() again", x.cancelAll(), 0);
            check.due("all debts", x.count(3), 5);
        });
        check.test("promise 23: every debt of four houses", x -> {
            x.houses(4);
            everyPair(x, 4);
            check.due("cancelAll()", x.cancelAll(), 12 * 7);
            check.due("all debts", x.count(3), 0);
        });
        check.end();
    }

    private static void everyPair(WhoPays x, int n) {
        for (int i = 0; i < n; i++) {
            for (int j = 0; j < n; j++) {
                x.owe(i, j, 7);
            }
        }
    }
}
