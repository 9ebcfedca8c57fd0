/** The boundary cases of promises 19 to 23, each by itself. */
public final class RingsEdgesTest {
    private static final int NONE = -1;
    private static final int UNKNOWN_NET = -1000000;
    private static final int LEAST = Integer.MIN_VALUE;
    private static final int MOST = Integer.MAX_VALUE;

    public static void main(String[] args) {
        Check check = new Check("RingsEdgesTest");
        net(check);
        rings(check);
        ring(check);
        ringOrder(check);
        cancel(check);
        cancelAll(check);
        check.end();
    }

    private static void net(Check check) {
        check.test("promise 19: nothing", x -> {
            check.due("net(0)", x.net(0), 0);
        });
        check.test("promise 19: cash is no part of it", x -> {
            x.cash(0, 1000);
            check.due("net(0)", x.net(0), 0);
        });
        check.test("promise 19: as much to it as it owes", x -> {
            x.houses(2);
            x.owe(0, 1, 50);
            x.owe(1, 0, 50);
            check.due("net(0)", x.net(0), 0);
            check.due("net(1)", x.net(1), 0);
        });
        check.test("promise 19: the most, 150", x -> {
            x.houses(4);
            for (int j = 0; j < 3; j++) {
                x.owe(j, 3, 50);
            }
            check.due("net(3)", x.net(3), 150);
        });
        check.test("promise 19: the least, -200", x -> {
            x.houses(4);
            for (int j = 1; j <= 4; j++) {
                x.owe(0, j, 50);
            }
            check.due("net(0)", x.net(0), -200);
        });
        check.test("promise 19: a net of -101 is told as it is", x -> {
            x.houses(4);
            x.owe(0, 1, 50);
            x.owe(0, 2, 50);
            x.owe(0, 3, 1);
            check.due("net(0)", x.net(0), -101);
        });
        check.test("promise 19: outside has none, and what is far off neither", x -> {
            x.houses(3);
            x.owe(0, 3, 9);
            for (int i : new int[] {LEAST, -102, -101, -1, 3, 4, 5, MOST}) {
                check.due("net(" + i + ")", x.net(i), UNKNOWN_NET);
            }
        });
    }

    private static void rings(Check check) {
        check.test("promise 20: none, of one house", x -> {
            x.owe(0, 1, 50);
            check.due("rings()", x.rings(), 0);
        });
        check.test("promise 20: one way alone is none", x -> {
            x.houses(2);
            x.owe(0, 1, 50);
            check.due("rings()", x.rings(), 0);
        });
        check.test("promise 20: a chain that lacks its last debt is none", x -> {
            x.houses(4);
            x.owe(0, 1, 50);
            x.owe(1, 2, 50);
            x.owe(2, 3, 50);
            check.due("rings()", x.rings(), 0);
            x.owe(3, 0, 1);
            check.due("rings() with its last debt", x.rings(), 1);
        });
        check.test("promise 20: debts to outside close none", x -> {
            x.houses(2);
            x.owe(0, 1, 50);
            x.owe(1, 2, 50);
            x.owe(0, 2, 50);
            check.due("rings()", x.rings(), 0);
        });
        check.test("promise 20: a debt of 1 is something, one of 0 is not", x -> {
            x.houses(2);
            x.owe(0, 1, 1);
            x.owe(1, 0, 1);
            check.due("rings()", x.rings(), 1);
            x.owe(1, 0, 0);
            check.due("rings() without", x.rings(), 0);
        });
        check.test("promise 20: full: 1 of two, 5 of three, 20 of four", x -> {
            int[] due = {0, 0, 1, 5, 20};
            for (int n = 1; n <= 4; n++) {
                x.houses(n);
                everyPair(x, n, 50);
                check.due("rings() of " + n, x.rings(), due[n]);
            }
        });
        check.test("promise 20: full but for one debt: 15 of four", x -> {
            for (int i = 0; i < 4; i++) {
                for (int j = 0; j < 4; j++) {
                    if (i != j) {
                        x.houses(4);
                        everyPair(x, 4, 1);
                        x.owe(i, j, 0);
                        check.due("rings() without " + i + " to " + j, x.rings(), 15);
                    }
                }
            }
        });
        check.test("promise 20: both ways round are two", x -> {
            x.houses(3);
            everyPair(x, 3, 1);
            check.due("ring(3)", x.ring(3), 123);
            check.due("ring(4)", x.ring(4), 132);
        });
    }

    private static void ring(Check check) {
        check.test("promise 21: NONE where there are none", x -> {
            check.due("ring(0)", x.ring(0), NONE);
            x.houses(4);
            check.due("ring(0) of four", x.ring(0), NONE);
        });
        check.test("promise 21: the first and the last, and one beyond", x -> {
            x.houses(4);
            everyPair(x, 4, 1);
            check.due("ring(0)", x.ring(0), 12);
            check.due("ring(19)", x.ring(19), 1432);
            check.due("ring(20)", x.ring(20), NONE);
        });
        check.test("promise 21: k below 0", x -> {
            x.houses(4);
            everyPair(x, 4, 1);
            for (int k : new int[] {-1, -2, -20, -102, LEAST}) {
                check.due("ring(" + k + ")", x.ring(k), NONE);
            }
        });
        check.test("promise 21: k far above", x -> {
            x.houses(4);
            everyPair(x, 4, 1);
            for (int k : new int[] {21, 100, 65536, MOST}) {
                check.due("ring(" + k + ")", x.ring(k), NONE);
            }
        });
        check.test("promise 21: its least house first, wherever it begins", x -> {
            x.houses(4);
            x.owe(3, 2, 9);
            x.owe(2, 1, 9);
            x.owe(1, 3, 9);
            check.due("ring(0)", x.ring(0), 243);
        });
        check.test("promise 21: of all four, against their numbers", x -> {
            x.houses(4);
            x.owe(3, 2, 9);
            x.owe(2, 1, 9);
            x.owe(1, 0, 9);
            x.owe(0, 3, 9);
            check.due("ring(0)", x.ring(0), 1432);
            check.due("ring(1)", x.ring(1), NONE);
        });
    }

    private static void ringOrder(Check check) {
        check.test("promise 21: fewer houses first, though its first house is greater", x -> {
            x.houses(4);
            x.owe(2, 3, 1);
            x.owe(3, 2, 1);
            x.owe(0, 1, 1);
            x.owe(1, 2, 1);
            x.owe(2, 0, 1);
            check.due("ring(0)", x.ring(0), 34);
            check.due("ring(1)", x.ring(1), 123);
            check.due("ring(2)", x.ring(2), NONE);
        });
        check.test("promise 21: of as many, the first house that differs: the last one", x -> {
            x.houses(4);
            x.owe(0, 1, 1);
            x.owe(1, 2, 1);
            x.owe(2, 0, 1);
            x.owe(1, 3, 1);
            x.owe(3, 0, 1);
            check.due("ring(0)", x.ring(0), 123);
            check.due("ring(1)", x.ring(1), 124);
            check.due("ring(2)", x.ring(2), NONE);
        });
        check.test("promise 21: of as many, the first house that differs: the first one", x -> {
            x.houses(4);
            x.owe(2, 3, 1);
            x.owe(3, 2, 1);
            x.owe(0, 1, 1);
            x.owe(1, 0, 1);
            check.due("ring(0)", x.ring(0), 12);
            check.due("ring(1)", x.ring(1), 34);
        });
        check.test("promise 21: a ring that is gone makes room", x -> {
            x.houses(3);
            everyPair(x, 3, 1);
            x.owe(1, 0, 0);
            check.due("ring(0)", x.ring(0), 13);
            check.due("ring(1)", x.ring(1), 23);
            check.due("ring(2)", x.ring(2), 123);
            check.due("ring(3)", x.ring(3), NONE);
        });
    }

    private static void cancel(Check check) {
        check.test("promise 22: 0 where there is none, and nothing changes", x -> {
            x.houses(2);
            x.owe(0, 1, 9);
            x.owe(1, 2, 9);
            long before = x.digest();
            check.due("cancel()", x.cancel(), 0);
            check.due("digest()", x.digest(), before);
        });
        check.test("promise 22: 1, the least", x -> {
            x.houses(2);
            x.owe(0, 1, 50);
            x.owe(1, 0, 1);
            check.due("cancel()", x.cancel(), 1);
            check.due("debt(0, 1)", x.debt(0, 1), 49);
            check.due("debt(1, 0)", x.debt(1, 0), 0);
        });
        check.test("promise 22: 50, the most, of all four houses", x -> {
            x.houses(4);
            for (int i = 0; i < 4; i++) {
                x.owe(i, (i + 1) % 4, 50);
            }
            check.due("cancel()", x.cancel(), 50);
            check.due("count(3)", x.count(3), 0);
        });
        check.test("promise 22: the least debt, in every place of the ring", x -> {
            for (int place = 0; place < 4; place++) {
                x.houses(4);
                for (int i = 0; i < 4; i++) {
                    x.owe(i, (i + 1) % 4, i == place ? 3 : 10);
                }
                check.due("cancel()", x.cancel(), 3);
                for (int i = 0; i < 4; i++) {
                    check.due("debt", x.debt(i, (i + 1) % 4), i == place ? 0 : 7);
                }
            }
        });
        check.test("promise 22: the first ring alone, no debt beside it", x -> {
            x.houses(4);
            everyPair(x, 4, 5);
            check.due("cancel()", x.cancel(), 5);
            check.due("count(3)", x.count(3), 50);
            check.due("debt(0, 1)", x.debt(0, 1), 0);
            check.due("debt(1, 0)", x.debt(1, 0), 0);
        });
        check.test("promise 22: nets, cash and what was paid stay", x -> {
            x.houses(2);
            x.cash(0, 9);
            x.owe(0, 1, 8);
            x.owe(1, 0, 5);
            x.owe(0, 2, 7);
            x.cancel();
            check.due("net(0)", x.net(0), -10);
            check.due("net(1)", x.net(1), 3);
            check.due("cashOf(0)", x.cashOf(0), 9);
            check.due("debt(0, 2)", x.debt(0, 2), 7);
            check.due("count(6)", x.count(6), 0);
        });
    }

    private static void cancelAll(Check check) {
        check.test("promise 23: 0 where there is none, and nothing changes", x -> {
            x.houses(3);
            x.owe(0, 1, 9);
            x.owe(1, 2, 9);
            x.owe(2, 3, 9);
            long before = x.digest();
            check.due("cancelAll()", x.cancelAll(), 0);
            check.due("digest()", x.digest(), before);
        });
        check.test("promise 23: the least, two debts of 1", x -> {
            x.houses(2);
            x.owe(0, 1, 1);
            x.owe(1, 0, 1);
            check.due("cancelAll()", x.cancelAll(), 2);
        });
        check.test("promise 23: the most, twelve debts of 50", x -> {
            x.houses(4);
            everyPair(x, 4, 50);
            check.due("cancelAll()", x.cancelAll(), 600);
            check.due("count(3)", x.count(3), 0);
        });
        check.test("promise 23: the first ring takes what a longer one would have used", x -> {
            x.houses(3);
            x.owe(0, 1, 5);
            x.owe(1, 0, 5);
            x.owe(1, 2, 5);
            x.owe(2, 0, 5);
            check.due("cancelAll()", x.cancelAll(), 10);
            check.due("debt(1, 2)", x.debt(1, 2), 5);
            check.due("debt(2, 0)", x.debt(2, 0), 5);
        });
        check.test("promise 23: of as many houses the lesser one first", x -> {
            x.houses(4);
            x.owe(0, 1, 5);
            x.owe(1, 2, 3);
            x.owe(2, 0, 3);
            x.owe(1, 3, 5);
            x.owe(3, 0, 5);
            check.due("cancelAll()", x.cancelAll(), 15);
            check.due("debt(1, 2)", x.debt(1, 2), 0);
            check.due("debt(1, 3)", x.debt(1, 3), 3);
        });
        check.test("promise 23: many rings, one after the other, as by cancel()", x -> {
            WhoPays other = new WhoPays();
            tangle(x);
            tangle(other);
            int all = other.count(3);
            int steps = 0;
            while (steps < 20 && other.cancel() > 0) {
                steps++;
            }
            check.due("more than a few rings", steps > 5 ? 1 : 0, 1);
            check.due("cancelAll()", x.cancelAll(), all - other.count(3));
            check.due("rings()", x.rings(), 0);
            check.due("digest()", x.digest(), other.digest());
        });
        check.test("promise 23: all nets are kept", x -> {
            tangle(x);
            int[] nets = {x.net(0), x.net(1), x.net(2), x.net(3)};
            x.cancelAll();
            for (int i = 0; i < 4; i++) {
                check.due("net(" + i + ")", x.net(i), nets[i]);
            }
        });
    }

    private static void everyPair(WhoPays x, int n, int v) {
        for (int i = 0; i < n; i++) {
            for (int j = 0; j < n; j++) {
                x.owe(i, j, v);
            }
        }
    }

    /** Four houses, all debts of another size. */
    private static void tangle(WhoPays x) {
        x.houses(4);
        int v = 7;
        for (int i = 0; i < 4; i++) {
            for (int j = 0; j <= 4; j++) {
                x.owe(i, j, v);
                v = (v * 3 + 4) % 51;
            }
        }
    }
}
