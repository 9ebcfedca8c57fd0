import java.math.BigInteger;

/** The boundary cases of promises 26 and 27, and of the 512 calls, each by itself. */
public final class ToldEdgesTest {
    private static final int OUTSIDE = -102;

    public static void main(String[] args) {
        Check check = new Check("ToldEdgesTest");
        count(check);
        countPaid(check);
        digest(check);
        digestOfRefusals(check);
        calls(check);
        check.end();
    }

    private static void count(Check check) {
        check.test("promise 26: -1 is too small, 0 is not", x -> {
            check.due("count(-1)", x.count(-1), OUTSIDE);
            check.due("count(0)", x.count(0), 1);
        });
        check.test("promise 26: 7 is too large, 6 is not", x -> {
            check.due("count(7)", x.count(7), OUTSIDE);
            check.due("count(6)", x.count(6), 0);
        });
        check.test("promise 26: whats far off", x -> {
            for (int what : new int[] {Integer.MIN_VALUE, -102, -101, 8, 256, 65536, Integer.MAX_VALUE}) {
                check.due("count(" + what + ")", x.count(what), OUTSIDE);
            }
        });
        check.test("promise 26: empty books of four", x -> {
            x.houses(4);
            int[] due = {4, 0, 0, 0, 0, 0, 0};
            for (int what = 0; what <= 6; what++) {
                check.due("count(" + what + ")", x.count(what), due[what]);
            }
        });
        check.test("promise 26: full books of four", x -> {
            full(x);
            int[] due = {4, 5, 4000, 800, 200, 4, 0};
            for (int what = 0; what <= 6; what++) {
                check.due("count(" + what + ")", x.count(what), due[what]);
            }
        });
        check.test("promise 26: one that owes outside alone owes something, one that is owed does not", x -> {
            x.houses(3);
            x.owe(2, 3, 1);
            check.due("count(5)", x.count(5), 1);
            x.owe(0, 1, 1);
            check.due("count(5)", x.count(5), 2);
            x.owe(0, 1, 0);
            check.due("count(5)", x.count(5), 1);
        });
        check.test("promise 26: debts to the last house are not those to outside", x -> {
            x.houses(4);
            x.owe(0, 3, 9);
            x.owe(3, 4, 2);
            check.due("count(4)", x.count(4), 2);
            check.due("count(3)", x.count(3), 11);
        });
    }

    private static void countPaid(Check check) {
        check.test("promise 26: paid to houses is not paid to outside", x -> {
            x.houses(2);
            x.cash(0, 9);
            x.owe(0, 1, 9);
            x.day();
            check.due("count(6)", x.count(6), 0);
        });
        check.test("promise 26: what is cancelled, owed anew or cleared is not paid", x -> {
            x.houses(2);
            x.owe(0, 1, 9);
            x.owe(1, 0, 9);
            x.owe(0, 2, 9);
            x.cancelAll();
            x.owe(0, 2, 0);
            x.rounds();
            check.due("count(6)", x.count(6), 0);
        });
        check.test("promise 26: paid by every house, on several days, above 1000", x -> {
            x.houses(4);
            for (int turn = 1; turn <= 10; turn++) {
                for (int i = 0; i < 4; i++) {
                    x.cash(i, 50);
                    x.owe(i, 4, 50);
                }
                x.day();
                check.due("count(6)", x.count(6), 200 * turn);
            }
        });
        check.test("promise 26: stays on refused houses(), toll(), cash() and owe()", x -> {
            x.cash(0, 8);
            x.owe(0, 1, 8);
            x.days();
            x.houses(5);
            x.houses(0);
            x.toll(5);
            x.cash(0, 0);
            x.owe(0, 1, 9);
            check.due("count(6)", x.count(6), 8);
        });
        check.test("promise 26: begins anew with houses(), even with as many", x -> {
            x.cash(0, 8);
            x.owe(0, 1, 8);
            x.days();
            x.houses(1);
            check.due("count(6)", x.count(6), 0);
            x.cash(0, 3);
            x.owe(0, 1, 3);
            x.days();
            check.due("count(6)", x.count(6), 3);
        });
    }

    private static void digest(Check check) {
        check.test("promise 27: a new object, no wrapping yet", x -> {
            check.due("digest()", x.digest(), digestOf(1, 0, 0, 0, 0, 0, 1, 1, 0));
        });
        check.test("promise 27: empty books of four wrap around", x -> {
            x.houses(4);
            check.due("digest()", x.digest(), digestOf(
                    4, 0,
                    0, 0, 0, 0, 0, 0,
                    0, 0, 0, 0, 0, 0,
                    0, 0, 0, 0, 0, 0,
                    0, 0, 0, 0, 0, 0,
                    0, 1, 1, 0, 1, 1, 0, 1, 1, 0, 1, 1,
                    0));
        });
        check.test("promise 27: full books of four", x -> {
            full(x);
            check.due("digest()", x.digest(), digestOf(
                    4, 5,
                    1000, 0, 50, 50, 50, 50,
                    1000, 50, 0, 50, 50, 50,
                    1000, 50, 50, 0, 50, 50,
                    1000, 50, 50, 50, 0, 50,
                    0, 1, 1, 0, 1, 1, 0, 1, 1, 0, 1, 1,
                    0));
        });
        check.test("promise 27: debts to outside behind those to houses, rounds and shares of the fallen", x -> {
            x.houses(2);
            x.cash(1, 3);
            x.owe(1, 0, 4);
            x.owe(1, 2, 5);
            x.owe(0, 2, 2);
            check.due("digest()", x.digest(), digestOf(
                    2, 0, 0, 0, 0, 2, 3, 4, 0, 5, 2, 2, 3, 1, 1, 3, 0));
        });
        check.test("promise 27: numbers above 2 to the 31st are taken whole", x -> {
            x.houses(4);
            x.toll(3);
            long[][] rows = {
                {29, 0, 50, 50, 49, 48}, {25, 46, 0, 49, 48, 48},
                {28, 48, 45, 0, 46, 48}, {28, 50, 46, 50, 0, 49}
            };
            long[] numbers = new long[2 + 4 * 6 + 4 * 3 + 1];
            numbers[0] = 4;
            numbers[1] = 3;
            int next = 2;
            for (int i = 0; i < 4; i++) {
                x.cash(i, (int) rows[i][0]);
                numbers[next++] = rows[i][0];
                for (int j = 0; j <= 4; j++) {
                    x.owe(i, j, (int) rows[i][j + 1]);
                    numbers[next++] = rows[i][j + 1];
                }
            }
            for (int i = 0; i < 4; i++) {
                numbers[next++] = x.falls(i);
                numbers[next++] = x.share(i, 0);
                numbers[next++] = x.share(i, 1);
            }
            check.due("a great number", x.share(0, 1), 5289982781581L);
            check.due("digest()", x.digest(), digestOf(numbers));
        });
        check.test("promise 27: cash above 1000, and what was paid, last", x -> {
            x.houses(2);
            x.cash(0, 60);
            x.cash(1, 1000);
            x.owe(0, 1, 50);
            x.owe(0, 2, 10);
            x.day();
            check.due("digest()", x.digest(), digestOf(
                    2, 0, 0, 0, 0, 0, 1050, 0, 0, 0, 0, 1, 1, 0, 1, 1, 10));
        });
        check.test("promise 27: asked twice, and behind drag(), the same", x -> {
            x.houses(2);
            x.cash(0, 40);
            x.owe(0, 1, 40);
            x.owe(1, 2, 40);
            long before = x.digest();
            check.due("digest() again", x.digest(), before);
            check.due("drag(0)", x.drag(0), 2);
            check.due("digest() behind drag()", x.digest(), before);
        });
    }

    private static void digestOfRefusals(Check check) {
        check.test("promise 27: no refused call changes it", x -> {
            full(x);
            x.cash(0, 7);
            long before = x.digest();
            x.houses(0);
            x.houses(5);
            x.cash(4, 1);
            x.cash(0, -1);
            x.cash(0, 1001);
            x.owe(4, 0, 1);
            x.owe(0, 5, 1);
            x.owe(0, 1, -1);
            x.owe(0, 1, 51);
            x.owe(2, 2, 1);
            x.toll(-1);
            x.toll(6);
            x.cashOf(4);
            x.debt(4, 0);
            x.owes(4);
            x.net(4);
            x.ring(99);
            x.count(7);
            check.due("digest()", x.digest(), before);
        });
    }

    private static void calls(Check check) {
        check.test("the 512th call is answered as the first", x -> {
            x.houses(2);
            x.cash(0, 20);
            x.owe(0, 1, 30);
            x.owe(1, 2, 20);
            long first = x.digest();
            for (int call = 6; call <= 511; call++) {
                x.toll(call % 6);
            }
            // call 511 has set the toll to 1
            check.due("the 512th: falls(1)", x.falls(1), 2);
            WhoPays other = new WhoPays();
            other.houses(2);
            other.cash(0, 20);
            other.owe(0, 1, 30);
            other.owe(1, 2, 20);
            for (int call = 5; call <= 511; call++) {
                other.count(call % 7);
            }
            check.due("the 512th: digest()", other.digest(), first);
        });
    }

    private static void full(WhoPays x) {
        x.houses(4);
        x.toll(5);
        for (int i = 0; i < 4; i++) {
            x.cash(i, 1000);
            for (int j = 0; j <= 4; j++) {
                x.owe(i, j, 50);
            }
        }
    }

    /** In numbers of any size, wrapped once at the end. */
    private static long digestOf(long... numbers) {
        BigInteger h = BigInteger.valueOf(173);
        for (long number : numbers) {
            h = h.multiply(BigInteger.valueOf(31)).add(BigInteger.valueOf(number));
        }
        return h.longValue();
    }
}
