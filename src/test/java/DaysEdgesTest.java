/** The boundary cases of promises 24 and 25, each by itself. */
public final class DaysEdgesTest {
    public static void main(String[] args) {
        Check check = new Check("DaysEdgesTest");
        whole(check);
        order(check);
        purse(check);
        days(check);
        check.end();
    }

    private static void whole(Check check) {
        check.test("promise 24: nothing owed, nothing paid, a debt of 0 is none", x -> {
            x.houses(4);
            x.cash(0, 1000);
            long before = x.digest();
            check.due("day()", x.day(), 0);
            check.due("digest()", x.digest(), before);
        });
        check.test("promise 24: nothing in cash, nothing paid", x -> {
            x.houses(2);
            x.owe(0, 1, 1);
            x.owe(1, 0, 1);
            x.owe(0, 2, 1);
            long before = x.digest();
            check.due("day()", x.day(), 0);
            check.due("digest()", x.digest(), before);
        });
        check.test("promise 24: just as much is enough", x -> {
            x.cash(0, 50);
            x.owe(0, 1, 50);
            check.due("day()", x.day(), 1);
            check.due("cashOf(0)", x.cashOf(0), 0);
            check.due("debt(0, 1)", x.debt(0, 1), 0);
        });
        check.test("promise 24: one less is not, and no part is paid", x -> {
            x.cash(0, 49);
            x.owe(0, 1, 50);
            check.due("day()", x.day(), 0);
            check.due("cashOf(0)", x.cashOf(0), 49);
            check.due("debt(0, 1)", x.debt(0, 1), 50);
        });
        check.test("promise 24: the least debt", x -> {
            x.cash(0, 1);
            x.owe(0, 1, 1);
            check.due("day()", x.day(), 1);
            check.due("count(6)", x.count(6), 1);
        });
        check.test("promise 24: all sixteen debts on one day", x -> {
            x.houses(4);
            for (int i = 0; i < 4; i++) {
                x.cash(i, 1000);
                for (int j = 0; j <= 4; j++) {
                    x.owe(i, j, 50);
                }
            }
            check.due("day()", x.day(), 16);
            check.due("count(3)", x.count(3), 0);
            check.due("count(6)", x.count(6), 200);
            for (int i = 0; i < 4; i++) {
                check.due("cashOf(" + i + ")", x.cashOf(i), 950);
            }
        });
        check.test("promise 24: the toll takes no part", x -> {
            x.toll(5);
            x.cash(0, 50);
            x.owe(0, 1, 50);
            check.due("day()", x.day(), 1);
            check.due("count(6)", x.count(6), 50);
        });
        check.test("promise 24: one that falls in the clearing pays what it can", x -> {
            x.houses(2);
            x.cash(0, 5);
            x.owe(0, 1, 5);
            x.owe(0, 2, 50);
            check.due("falls(0)", x.falls(0), 1);
            check.due("day()", x.day(), 1);
            check.due("cashOf(1)", x.cashOf(1), 5);
        });
    }

    private static void order(Check check) {
        check.test("promise 24: to outside first, though told as the last", x -> {
            x.houses(2);
            x.cash(0, 10);
            x.owe(0, 1, 10);
            x.owe(0, 2, 10);
            check.due("day()", x.day(), 1);
            check.due("debt(0, 1)", x.debt(0, 1), 10);
            check.due("debt(0, 2)", x.debt(0, 2), 0);
        });
        check.test("promise 24: then to the houses, the lesser number first", x -> {
            x.houses(4);
            x.cash(3, 10);
            x.owe(3, 0, 10);
            x.owe(3, 1, 10);
            x.owe(3, 2, 10);
            check.due("day()", x.day(), 1);
            check.due("debt(3, 0)", x.debt(3, 0), 0);
            check.due("debt(3, 1)", x.debt(3, 1), 10);
            check.due("debt(3, 2)", x.debt(3, 2), 10);
        });
        check.test("promise 24: a debt too great is passed by, a later one is paid", x -> {
            x.houses(3);
            x.cash(0, 9);
            x.owe(0, 3, 10);
            x.owe(0, 1, 10);
            x.owe(0, 2, 9);
            check.due("day()", x.day(), 1);
            check.due("debt(0, 2)", x.debt(0, 2), 0);
            check.due("cashOf(2)", x.cashOf(2), 9);
        });
        check.test("promise 24: paid on, from the first house to the last", x -> {
            x.houses(4);
            x.cash(0, 1);
            x.owe(0, 1, 1);
            x.owe(1, 2, 1);
            x.owe(2, 3, 1);
            x.owe(3, 4, 1);
            check.due("day()", x.day(), 4);
            check.due("count(2)", x.count(2), 0);
            check.due("count(6)", x.count(6), 1);
        });
        check.test("promise 24: what comes back to a house that was on lies till the next day", x -> {
            x.houses(2);
            x.cash(0, 5);
            x.owe(0, 1, 5);
            x.owe(1, 0, 5);
            x.owe(0, 2, 5);
            x.cash(1, 5);
            // 0 pays outside; 1 pays 0 on this day, 0 pays 1 on the next
            check.due("day()", x.day(), 2);
            check.due("cashOf(0)", x.cashOf(0), 5);
            check.due("day() again", x.day(), 1);
            check.due("cashOf(1)", x.cashOf(1), 5);
        });
        check.test("promise 24: two days of day() are two days", x -> {
            x.houses(3);
            x.cash(2, 1);
            x.owe(2, 1, 1);
            x.owe(1, 0, 1);
            check.due("day()", x.day(), 1);
            check.due("debt(1, 0)", x.debt(1, 0), 1);
            check.due("day() again", x.day(), 1);
            check.due("day(), the third", x.day(), 0);
        });
    }

    private static void purse(Check check) {
        check.test("promise 24: what is paid to outside is gone", x -> {
            x.houses(4);
            x.cash(1, 50);
            x.owe(1, 4, 50);
            x.day();
            check.due("count(2)", x.count(2), 0);
            check.due("count(6)", x.count(6), 50);
        });
        check.test("promise 24: what is paid to a house is not gone", x -> {
            x.houses(4);
            x.cash(1, 50);
            x.owe(1, 3, 50);
            x.day();
            check.due("count(2)", x.count(2), 50);
            check.due("count(6)", x.count(6), 0);
        });
        check.test("promise 24: cash of 1000 grows by as much as is paid, from all others", x -> {
            x.houses(4);
            for (int i = 0; i < 4; i++) {
                x.cash(i, 1000);
                x.owe(i, 3, 50);
            }
            check.due("day()", x.day(), 3);
            check.due("cashOf(3)", x.cashOf(3), 1150);
        });
        check.test("promise 24: cash grows on from above 1000", x -> {
            x.houses(2);
            x.cash(1, 1000);
            for (int turn = 1; turn <= 100; turn++) {
                x.cash(0, 50);
                x.owe(0, 1, 50);
                x.day();
            }
            check.due("cashOf(1)", x.cashOf(1), 6000);
            check.due("count(2)", x.count(2), 6000);
            check.due("gross(1, 0)", x.gross(1, 0), 6000);
            check.due("left(1, 0)", x.left(1, 0), 6000);
        });
        check.test("promise 24: cash above 1000 pays", x -> {
            x.houses(2);
            x.cash(0, 50);
            x.cash(1, 1000);
            x.owe(0, 1, 50);
            x.owe(1, 2, 50);
            check.due("day()", x.day(), 2);
            check.due("cashOf(1)", x.cashOf(1), 1000);
        });
    }

    private static void days(Check check) {
        check.test("promise 25: 0, where the first one pays nothing, and nothing changes", x -> {
            x.houses(2);
            x.cash(0, 4);
            x.owe(0, 1, 5);
            long before = x.digest();
            check.due("days()", x.days(), 0);
            check.due("digest()", x.digest(), before);
        });
        check.test("promise 25: the day on which nothing is paid does not count", x -> {
            x.cash(0, 5);
            x.owe(0, 1, 5);
            check.due("days()", x.days(), 1);
            check.due("days() again", x.days(), 0);
        });
        check.test("promise 25: days that pass, not debts that are paid", x -> {
            x.houses(2);
            x.cash(0, 100);
            x.owe(0, 1, 5);
            x.owe(0, 2, 5);
            x.owe(1, 2, 5);
            check.due("days()", x.days(), 1);
            check.due("count(3)", x.count(3), 0);
        });
        check.test("promise 25: six days, as by day()", x -> {
            WhoPays other = new WhoPays();
            sixDays(x);
            sixDays(other);
            int passed = 0;
            while (passed < 20 && other.day() > 0) {
                passed++;
            }
            check.due("days by day()", passed, 6);
            check.due("days()", x.days(), 6);
            check.due("digest()", x.digest(), other.digest());
        });
        check.test("promise 25: nothing can be paid behind them", x -> {
            sixDays(x);
            x.days();
            check.due("day()", x.day(), 0);
            for (int i = 0; i < 4; i++) {
                for (int j = 0; j <= 4; j++) {
                    boolean stands = x.debt(i, j) == 0 || x.debt(i, j) > x.cashOf(i);
                    check.due("debt(" + i + ", " + j + ") stands", stands ? 1 : 0, 1);
                }
            }
        });
        check.test("promise 25: what is paid to outside is summed over all of them", x -> {
            x.houses(2);
            x.cash(1, 10);
            x.owe(1, 2, 4);
            x.owe(1, 0, 6);
            x.owe(0, 2, 6);
            check.due("days()", x.days(), 2);
            check.due("count(6)", x.count(6), 10);
        });
    }

    private static void sixDays(WhoPays x) {
        x.houses(4);
        int[] cash = {13, 5, 0, 13};
        int[][] debts = {{0, 5, 6, 9, 7}, {10, 0, 0, 6, 5}, {6, 2, 0, 8, 0}, {0, 9, 8, 0, 0}};
        for (int i = 0; i < 4; i++) {
            x.cash(i, cash[i]);
            for (int j = 0; j <= 4; j++) {
                x.owe(i, j, debts[i][j]);
            }
        }
    }
}
