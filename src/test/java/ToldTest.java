/** Promises 26 and 27. */
public final class ToldTest {
    public static void main(String[] args) {
        Check check = new Check("ToldTest");
        check.test("promise 26: count", x -> {
            some(x);
            check.due("count(0)", x.count(0), 3);
            check.due("count(1)", x.count(1), 2);
            check.due("count(2)", x.count(2), 30);
            check.due("count(3)", x.count(3), 60);
            check.due("count(4)", x.count(4), 35);
            check.due("count(5)", x.count(5), 2);
            check.due("count(6)", x.count(6), 0);
            check.due("count(7)", x.count(7), -102);
            check.due("count(-1)", x.count(-1), -102);
            check.due("count(most)", x.count(Integer.MAX_VALUE), -102);
            check.due("count(least)", x.count(Integer.MIN_VALUE), -102);
        });
        check.test("promise 26: paid to outside is summed until houses()", x -> {
            x.cash(0, 100);
            x.owe(0, 1, 30);
            x.day();
            x.owe(0, 1, 20);
            x.days();
            check.due("count(6)", x.count(6), 50);
            x.houses(0);
            check.due("count(6) after a refusal", x.count(6), 50);
            x.houses(1);
            check.due("count(6) after houses()", x.count(6), 0);
        });
        check.test("promise 27: digest of a new object", x -> {
            long[] numbers = {1, 0, 0, 0, 0, 0, 1, 1, 0};
            check.due("digest()", x.digest(), digestOf(numbers));
        });
        check.test("promise 27: digest of some books", x -> {
            some(x);
            // 1 falls: 0 pays it 15, so it has 15 of 30, less a fifth
            long[] numbers = {
                3, 2,
                30, 0, 15, 0, 15,
                0, 10, 0, 0, 20,
                0, 0, 0, 0, 0,
                0, 1, 1, 1, 2, 5, 0, 1, 1,
                0
            };
            check.due("digest()", x.digest(), digestOf(numbers));
        });
        check.test("promise 27: digest tells what was paid to outside", x -> {
            x.cash(0, 9);
            x.owe(0, 1, 9);
            x.day();
            long[] numbers = {1, 0, 0, 0, 0, 0, 1, 1, 9};
            check.due("digest()", x.digest(), digestOf(numbers));
        });
        check.end();
    }

    private static void some(WhoPays x) {
        x.houses(3);
        x.toll(2);
        x.cash(0, 30);
        x.owe(0, 1, 15);
        x.owe(0, 3, 15);
        x.owe(1, 0, 10);
        x.owe(1, 3, 20);
    }

    private static long digestOf(long[] numbers) {
        long h = 173;
        for (long number : numbers) {
            h = 31 * h + number;
        }
        return h;
    }
}
