/** Promises 24 and 25. */
public final class DaysTest {
    public static void main(String[] args) {
        Check check = new Check("DaysTest");
        check.test("promise 24: outside first, then the houses, whole ones as far as cash goes", x -> {
            x.houses(3);
            x.cash(0, 30);
            x.owe(0, 1, 25);
            x.owe(0, 2, 20);
            x.owe(0, 3, 10);
            check.due("day()", x.day(), 2);
            check.due("debt(0, 3)", x.debt(0, 3), 0);
            check.due("debt(0, 1)", x.debt(0, 1), 25);
            check.due("debt(0, 2)", x.debt(0, 2), 0);
            check.due("cashOf(0)", x.cashOf(0), 0);
            check.due("cashOf(2)", x.cashOf(2), 20);
            check.due("count(6)", x.count(6), 10);
            check.due("day()", x.day(), 0);
        });
        check.test("promise 24: cash exactly as much pays, one less does not", x -> {
            x.owe(0, 1, 8);
            x.cash(0, 7);
            check.due("day()", x.day(), 0);
            check.due("cashOf(0)", x.cashOf(0), 7);
            x.cash(0, 8);
            check.due("day()", x.day(), 1);
            check.due("cashOf(0)", x.cashOf(0), 0);
        });
        check.test("promise 24: what is paid is there at once, for later houses", x -> {
            x.houses(3);
            x.cash(0, 10);
            x.owe(0, 1, 10);
            x.owe(1, 2, 10);
            x.owe(2, 0, 10);
            check.due("day()", x.day(), 3);
            check.due("cashOf(0)", x.cashOf(0), 10);
        });
        check.test("promise 24: earlier houses wait for the next day", x -> {
            x.houses(3);
            x.cash(2, 10);
            x.owe(2, 1, 10);
            x.owe(1, 0, 10);
            x.owe(0, 3, 10);
            check.due("day()", x.day(), 1);
            check.due("day()", x.day(), 1);
            check.due("day()", x.day(), 1);
            check.due("day()", x.day(), 0);
            check.due("count(6)", x.count(6), 10);
        });
        check.test("promise 24: cash grows above 1000", x -> {
            x.houses(2);
            x.cash(0, 1000);
            x.cash(1, 1000);
            x.owe(0, 1, 50);
            check.due("day()", x.day(), 1);
            check.due("cashOf(1)", x.cashOf(1), 1050);
            check.due("gross(1, 0)", x.gross(1, 0), 1050);
        });
        check.test("promise 25: days", x -> {
            check.due("days() when new", x.days(), 0);
            x.houses(3);
            x.cash(2, 10);
            x.owe(2, 1, 10);
            x.owe(1, 0, 10);
            x.owe(0, 3, 10);
            check.due("days()", x.days(), 3);
            check.due("days() again", x.days(), 0);
            check.due("all debts", x.count(3), 0);
        });
        check.test("promise 25: what cannot be paid stands still", x -> {
            x.houses(2);
            x.cash(0, 5);
            x.owe(0, 1, 6);
            x.owe(0, 2, 4);
            check.due("days()", x.days(), 1);
            check.due("debt(0, 1)", x.debt(0, 1), 6);
            check.due("cashOf(0)", x.cashOf(0), 1);
        });
        check.end();
    }
}
