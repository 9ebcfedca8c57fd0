import java.util.Random;

/** All promises: long runs of calls, each answer beside the model's. */
public final class AgainstModelTest {
    private static final int[] ODD = {-1, 4, 5, 51, 1001, Integer.MIN_VALUE, Integer.MAX_VALUE, -102};

    public static void main(String[] args) {
        Check check = new Check("AgainstModelTest");
        for (int seed = 0; seed < 200; seed++) {
            int run = seed;
            check.test("run " + run, x -> runOfCalls(check, x, new Model(), new Random(run)));
        }
        check.test("help by trial of every number", unused -> {
            Random random = new Random(7);
            for (int k = 0; k < 6; k++) {
                WhoPays x = new WhoPays();
                Model m = new Model();
                x.houses(4);
                m.houses(4);
                fill(x, m, random, 150, 12);
                for (int i = 0; i < 4; i++) {
                    check.due("help(" + i + ")", x.help(i), m.help(i, 1000));
                }
            }
        });
        check.test("the greatest numbers below", unused -> {
            Random random = new Random(11);
            for (int k = 0; k < 300; k++) {
                WhoPays x = new WhoPays();
                Model m = new Model();
                x.houses(4);
                m.houses(4);
                x.toll(k % 6);
                m.toll(k % 6);
                fill(x, m, random, 40, 50);
                for (int i = 0; i < 4; i++) {
                    for (int j = 0; j <= 4; j++) {
                        int v = 50 - random.nextInt(4);
                        if (i != j) {
                            x.owe(i, j, v);
                            m.owe(i, j, v);
                        }
                    }
                }
                clearing(check, x, m);
            }
        });
        check.end();
    }

    private static void runOfCalls(Check check, WhoPays x, Model m, Random random) {
        int mostCash = new int[] {20, 60, 150, 1000}[random.nextInt(4)];
        int mostDebt = new int[] {2, 15, 50}[random.nextInt(3)];
        // with the clearing at its end a run stays within the 512 calls that are promised
        for (int call = 0; call < 430; call++) {
            int i = random.nextInt(30) == 0 ? odd(random) : random.nextInt(m.n);
            int j = random.nextInt(30) == 0 ? odd(random) : random.nextInt(m.n + 1);
            int part = random.nextInt(30) == 0 ? odd(random) : random.nextInt(2);
            int what = random.nextInt(call < 40 ? 8 : 30);
            oneCall(check, x, m, random, new int[] {what, i, j, part, mostCash, mostDebt});
        }
        clearing(check, x, m);
    }

    private static void oneCall(Check check, WhoPays x, Model m, Random random, int[] told) {
        int i = told[1];
        int j = told[2];
        int part = told[3];
        boolean house = m.house(i);
        boolean isPart = part == 0 || part == 1;
        long refusal = !house ? -101 : -102;
        int v;
        switch (told[0]) {
            case 0:
                v = random.nextInt(12) == 0 ? random.nextInt(7) : random.nextInt(5) == 0 ? 4 : 9;
                check.due("houses(" + v + ")", x.houses(v), m.houses(v));
                break;
            case 1: case 2:
                v = random.nextInt(20) == 0 ? odd(random) : random.nextInt(told[4] + 1);
                check.due("cash(" + i + ", " + v + ")", x.cash(i, v), m.cash(i, v));
                break;
            case 3: case 4: case 5: case 6:
                v = random.nextInt(20) == 0 ? odd(random) : random.nextInt(told[5] + 1);
                check.due("owe(" + i + ", " + j + ", " + v + ")", x.owe(i, j, v), m.owe(i, j, v));
                break;
            case 7:
                v = random.nextInt(10) == 0 ? odd(random) : random.nextInt(7);
                check.due("toll(" + v + ")", x.toll(v), m.toll(v));
                break;
            case 8:
                check.due("cashOf(" + i + ")", x.cashOf(i), house ? m.cash[i] : -101);
                break;
            case 9:
                check.due("debt(" + i + ", " + j + ")", x.debt(i, j), house && m.payee(j) ? m.debt[i][j] : -101);
                break;
            case 10:
                check.due("owes(" + i + ")", x.owes(i), house ? m.owes(i) : -101);
                break;
            case 11:
                check.due("falls(" + i + ")", x.falls(i), house ? m.clear(m.cash).fell[i] : -101);
                break;
            case 12:
                check.due("rounds()", x.rounds(), m.clear(m.cash).rounds);
                break;
            case 13:
                check.due("share(" + i + ", " + part + ")", x.share(i, part),
                        house && isPart ? m.clear(m.cash).share[i].part(part) : refusal);
                break;
            case 14:
                check.due("gross(" + i + ", " + part + ")", x.gross(i, part),
                        house && isPart ? m.clear(m.cash).gross[i].part(part) : refusal);
                break;
            case 15:
                check.due("pays(" + i + ", " + j + ", " + part + ")", x.pays(i, j, part),
                        !house || !m.payee(j) ? -101 : !isPart ? -102
                        : m.clear(m.cash).share[i].times(Model.Fraction.of(m.debt[i][j])).part(part));
                break;
            case 16:
                check.due("left(" + i + ", " + part + ")", x.left(i, part), house && isPart ? m.left(i).part(part) : refusal);
                break;
            case 17:
                check.due("lost(" + part + ")", x.lost(part), isPart ? m.lost().part(part) : -102);
                break;
            case 18:
                check.due("drag(" + i + ")", x.drag(i), house ? m.drag(i) : -101);
                break;
            case 19:
                check.due("help(" + i + ")", x.help(i), house ? m.help(i, 200) : -101);
                break;
            case 20:
                check.due("best()", x.best(), m.best(200));
                break;
            case 21:
                check.due("net(" + i + ")", x.net(i), house ? m.net(i) : -1000000);
                break;
            case 22:
                check.due("rings()", x.rings(), m.rings().size());
                break;
            case 23:
                v = random.nextInt(20) == 0 ? odd(random) : random.nextInt(4);
                check.due("ring(" + v + ")", x.ring(v), m.ring(v));
                break;
            case 24:
                check.due("cancel()", x.cancel(), m.cancel());
                break;
            case 25:
                if (random.nextInt(4) == 0) {
                    check.due("cancelAll()", x.cancelAll(), m.cancelAll());
                }
                break;
            case 26:
                check.due("day()", x.day(), m.day());
                break;
            case 27:
                if (random.nextInt(4) == 0) {
                    check.due("days()", x.days(), m.days());
                }
                break;
            case 28:
                v = random.nextInt(10) - 1;
                check.due("count(" + v + ")", x.count(v), m.count(v));
                break;
            default:
                check.due("digest()", x.digest(), m.digest());
                break;
        }
    }

    private static void fill(WhoPays x, Model m, Random random, int mostCash, int mostDebt) {
        for (int i = 0; i < m.n; i++) {
            int coins = random.nextInt(mostCash + 1);
            x.cash(i, coins);
            m.cash(i, coins);
            for (int j = 0; j <= m.n; j++) {
                int v = random.nextInt(mostDebt + 1);
                x.owe(i, j, v);
                m.owe(i, j, v);
            }
        }
    }

    private static void clearing(Check check, WhoPays x, Model m) {
        Model.Cleared c = m.clear(m.cash);
        check.due("rounds()", x.rounds(), c.rounds);
        for (int i = 0; i < m.n; i++) {
            check.due("falls(" + i + ")", x.falls(i), c.fell[i]);
            for (int part = 0; part < 2; part++) {
                check.due("share(" + i + ", " + part + ")", x.share(i, part), c.share[i].part(part));
                check.due("gross(" + i + ", " + part + ")", x.gross(i, part), c.gross[i].part(part));
                check.due("left(" + i + ", " + part + ")", x.left(i, part), m.left(i).part(part));
                for (int j = 0; j <= m.n; j++) {
                    check.due("pays(" + i + ", " + j + ", " + part + ")", x.pays(i, j, part),
                            c.share[i].times(Model.Fraction.of(m.debt[i][j])).part(part));
                }
            }
        }
        check.due("lost(0)", x.lost(0), m.lost().part(0));
        check.due("lost(1)", x.lost(1), m.lost().part(1));
        check.due("digest()", x.digest(), m.digest());
    }

    private static int odd(Random random) {
        return ODD[random.nextInt(ODD.length)];
    }
}
