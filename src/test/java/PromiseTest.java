import java.lang.reflect.Field;

/** Each promise of the document by hand: ordinary inputs, edges, wrong inputs. */
public final class PromiseTest {
    private static final int BAD = -1, FULL = -2, FINDING = -3, STATE = -4, NONE = -9;
    private static final int NOTHING = 1, BEYOND = 2, UNLIKE = 3, NOUGHT = 4, SIZE = 5;
    /** A ring of six: 0 of 1, 1 of 2, .. 5 of 0; 0 LOVES 3, 1 LOVES 2. */
    private static final String SIX = "p331 z222 s413 h544 w255 l340 o03 o12";

    private static int wrong = 0;
    private static String promise = "";

    private static void due(String call, long got, long want) {
        if (got != want) {
            wrong++;
            System.out.println(promise + ": " + call + " answered " + got + ", due is " + want);
        }
    }

    private static void found(EnemyByLot x, String call, int got, int finding) {
        due(call, got, FINDING);
        due(call + ", its finding()", x.finding(), finding);
    }

    private static EnemyByLot with(String town) {
        EnemyByLot x = new EnemyByLot();
        write(x, 0, town);
        x.town(0);
        return x;
    }

    private static void write(EnemyByLot x, int t, String town) {
        x.text(t, town.length());
        for (int i = 0; i < town.length(); i++) {
            x.put(t, i, town.charAt(i));
        }
    }

    private static int faultOf(String town) {
        EnemyByLot x = new EnemyByLot();
        write(x, 2, town);
        int fault = x.fault(2);
        int persons = x.town(2);
        if ((fault == NONE) != (persons >= 2) || (fault != NONE) != (persons == STATE)) {
            due("town() of '" + town + "' against fault() " + fault, persons, STATE);
        }
        return fault;
    }

    private static void lay(EnemyByLot x, int r, int... values) {
        x.row(r, values.length);
        for (int i = 0; i < values.length; i++) {
            x.lay(r, i, values[i]);
        }
    }

    private static int week(EnemyByLot x, int... acts) {
        lay(x, 5, acts);
        return x.week(5);
    }

    private static int trait(EnemyByLot x, int p, int what) {
        due("person(" + p + ", " + what + ")", x.person(p, what), 1);
        return x.asked();
    }

    private static int place(EnemyByLot x, int r, int i) {
        due("at(" + r + ", " + i + ")", x.at(r, i), 1);
        return x.asked();
    }

    private static void chance(EnemyByLot x, String call, long upper, long lower) {
        due(call + ", upper()", x.upper(), upper);
        due(call + ", lower()", x.lower(), lower);
    }

    private static void newObject() {
        EnemyByLot x = new EnemyByLot();
        for (int what = 0; what < 10; what++) {
            due("count(" + what + ")", x.count(what), 0);
        }
        for (int r = 0; r < 6; r++) {
            found(x, "at(" + r + ", 0)", x.at(r, 0), NOTHING);
        }
        for (int t = 0; t < 4; t++) {
            found(x, "fault(" + t + ")", x.fault(t), NOTHING);
        }
        for (int k = 0; k < 3; k++) {
            found(x, "on(" + k + ")", x.on(k), NOTHING);
        }
        due("person(0, 0)", x.person(0, 0), BAD);
    }

    private static void row() {
        EnemyByLot x = new EnemyByLot();
        due("row(0, 40)", x.row(0, 40), 40);
        due("row(5, 0)", x.row(5, 0), 0);
        due("row(0, 41)", x.row(0, 41), BAD);
        due("row(-1, 1)", x.row(-1, 1), BAD);
        due("row(6, 1)", x.row(6, 1), BAD);
        due("row(6, -1)", x.row(6, -1), BAD);
        found(x, "row(0, -1)", x.row(0, -1), SIZE);
        due("what was refused left it", place(x, 0, 39), 0);
        x.lay(0, 1, 7);
        x.row(0, 2);
        due("it is anew", place(x, 0, 1), 0);
        found(x, "at(0, 2)", x.at(0, 2), BEYOND);
        due("count(7)", x.count(7), 2);
    }

    private static void lay() {
        EnemyByLot x = new EnemyByLot();
        x.row(1, 3);
        due("lay(1, 2, 77)", x.lay(1, 2, 77), 1);
        due("asked()", x.asked(), 0);
        due("lay(1, 2, MIN)", x.lay(1, 2, Integer.MIN_VALUE), 1);
        due("asked()", x.asked(), 77);
        due("place 2", place(x, 1, 2), Integer.MIN_VALUE);
        due("lay(6, 0, 1)", x.lay(6, 0, 1), BAD);
        due("lay(-1, 0, 1)", x.lay(-1, 0, 1), BAD);
        found(x, "lay(0, 9, 1)", x.lay(0, 9, 1), NOTHING);
        found(x, "lay(1, 3, 1)", x.lay(1, 3, 1), BEYOND);
        found(x, "lay(1, -1, 1)", x.lay(1, -1, 1), BEYOND);
        due("asked() behind refusals", x.asked(), Integer.MIN_VALUE);
    }

    private static void at() {
        EnemyByLot x = new EnemyByLot();
        lay(x, 3, 4, -5);
        due("at(3, 1)", x.at(3, 1), 1);
        due("asked()", x.asked(), -5);
        due("at(6, 0)", x.at(6, 0), BAD);
        found(x, "at(2, 0)", x.at(2, 0), NOTHING);
        found(x, "at(3, 2)", x.at(3, 2), BEYOND);
        found(x, "at(3, MIN)", x.at(3, Integer.MIN_VALUE), BEYOND);
    }

    private static void tear() {
        EnemyByLot x = new EnemyByLot();
        x.row(4, 0);
        due("tear(4)", x.tear(4), 1);
        due("count(7)", x.count(7), 0);
        found(x, "tear(4)", x.tear(4), NOTHING);
        due("tear(6)", x.tear(6), BAD);
        due("tear(-1)", x.tear(-1), BAD);
    }

    private static void copy() {
        EnemyByLot x = new EnemyByLot();
        lay(x, 0, 1, 2, 3, 4, 5);
        x.row(1, 3);
        due("copy to another", x.copy(0, 1, 1, 0, 3), 1);
        due("place 2", place(x, 1, 2), 4);
        due("copy on itself", x.copy(0, 0, 0, 1, 4), 1);
        due("place 4, as if taken ahead", place(x, 0, 4), 4);
        due("place 1", place(x, 0, 1), 1);
        due("none, at the ends", x.copy(0, 5, 1, 3, 0), 1);
        found(x, "none, behind the end", x.copy(0, 6, 1, 0, 0), BEYOND);
        found(x, "from too far", x.copy(0, 3, 1, 0, 3), BEYOND);
        found(x, "to too far", x.copy(0, 0, 1, 1, 3), BEYOND);
        found(x, "from ahead", x.copy(0, -1, 1, 0, 1), BEYOND);
        found(x, "to ahead", x.copy(0, 0, 1, -1, 1), BEYOND);
        found(x, "far too many", x.copy(0, 1, 1, 1, Integer.MAX_VALUE), BEYOND);
        found(x, "from far away", x.copy(0, Integer.MAX_VALUE, 1, 0, 1), BEYOND);
        found(x, "from none", x.copy(2, 0, 1, 0, 0), NOTHING);
        found(x, "to none", x.copy(0, 0, 2, 0, 9), NOTHING);
        found(x, "fewer than none", x.copy(2, 0, 1, 0, -1), SIZE);
        due("of no number", x.copy(6, 0, 1, 0, -1), BAD);
        due("to no number", x.copy(0, 0, -1, 0, -1), BAD);
    }

    private static void mean() {
        EnemyByLot x = new EnemyByLot();
        lay(x, 0, 3, 4, 4);
        due("mean(0)", x.mean(0), 1);
        due("asked()", x.asked(), 3);
        lay(x, 0, 8);
        x.mean(0);
        due("asked() of one", x.asked(), 8);
        lay(x, 0, -3, -4, -4);
        x.mean(0);
        due("asked(), cut", x.asked(), -3);
        lay(x, 0, Integer.MAX_VALUE, Integer.MAX_VALUE, Integer.MAX_VALUE);
        x.mean(0);
        due("asked() of great ones", x.asked(), Integer.MAX_VALUE);
        found(x, "mean(1)", x.mean(1), NOTHING);
        x.row(1, 0);
        found(x, "mean(1) of none", x.mean(1), NOUGHT);
        due("mean(6)", x.mean(6), BAD);
    }

    private static void text() {
        EnemyByLot x = new EnemyByLot();
        due("text(3, 60)", x.text(3, 60), 60);
        due("put(3, 59, 1)", x.put(3, 59, 1), 1032);
        due("text(0, 0)", x.text(0, 0), 0);
        due("text(0, 61)", x.text(0, 61), BAD);
        due("text(4, 1)", x.text(4, 1), BAD);
        due("text(-1, -1)", x.text(-1, -1), BAD);
        found(x, "text(0, -1)", x.text(0, -1), SIZE);
        due("count(8)", x.count(8), 2);
        x.text(3, 60);
        due("it is anew", x.put(3, 59, 1), 1032);
    }

    private static void put() {
        EnemyByLot x = new EnemyByLot();
        x.text(1, 2);
        due("put(1, 1, 200)", x.put(1, 1, 200), 1032);
        due("put(1, 1, 127)", x.put(1, 1, 127), 944);
        due("put(1, 1, 256)", x.put(1, 1, 256), 1127);
        due("put(1, 1, -1)", x.put(1, 1, -1), 1000);
        due("put(1, 1, 0)", x.put(1, 1, 0), 999);
        due("put(4, 0, 0)", x.put(4, 0, 0), BAD);
        found(x, "put(0, 0, 0)", x.put(0, 0, 0), NOTHING);
        found(x, "put(1, 2, 0)", x.put(1, 2, 0), BEYOND);
        found(x, "put(1, -1, 0)", x.put(1, -1, 0), BEYOND);
    }

    private static void fault() {
        due("none", faultOf(SIX), NONE);
        due("blanks all over", faultOf("  p111p110  o01 "), NONE);
        due("empty", faultOf(""), 0);
        due("blanks alone", faultOf("   "), 3);
        due("one person", faultOf("p11- "), 5);
        due("no letter", faultOf(" q"), 1);
        due("a great letter", faultOf("P11-p11-"), 0);
        due("AIM 0", faultOf("p01-p11-"), 1);
        due("AIM 9, ZEAL 5", faultOf("p95-p90-"), NONE);
        due("ZEAL 6", faultOf("p16-p11-"), 2);
        due("no foe's figure", faultOf("p11xp11-"), 3);
        due("a blank within", faultOf("p 11-p11-"), 1);
        due("a blank within, late", faultOf("p11 -p11-"), 3);
        due("its end too early", faultOf("p11-p11"), 7);
        due("letter alone", faultOf("p11-p"), 5);
        due("six", faultOf("p11-z11-s11-h11-w11-l11-"), NONE);
        due("a seventh", faultOf("p11-p11-p11-p11-p11-p11- p11-"), 25);
        due("LOVE first", faultOf("o01p11-p11-"), 0);
        due("LOVE ahead of two", faultOf("p11-o01p11-"), 4);
        due("PERSON behind LOVE", faultOf("p11-p11-o01p11-"), 11);
        due("LOVE of nobody", faultOf("p11-p11-o21"), 9);
        due("LOVE of nobody, second", faultOf("p11-p11-o12"), 10);
        due("LOVE of itself", faultOf("p11-p11-o11"), 10);
        due("LOVE, turned", faultOf("p11-p11-o10"), NONE);
        due("LOVE told already", faultOf("p11-p11-o01o01"), 13);
        due("LOVE told already, turned", faultOf("p11-p11-o01 o10"), 14);
        due("LOVE's end too early", faultOf("p11-p11-o0"), 10);
        due("a blank within a LOVE", faultOf("p11-p11-o 01"), 9);
        String six = "p11-p11-p11-p11-p11-p11-";
        due("eight LOVES", faultOf(six + "o01o02o03o04o05o12o13o14"), NONE);
        due("a ninth LOVE", faultOf(six + "o01o02o03o04o05o12o13o14o15"), 48);
        due("its own foe", faultOf("p110p11-"), 3);
        due("of one that there is not", faultOf("p11-p112"), 7);
        due("of one far away", faultOf("p119p11-"), 3);
        due("two of one", faultOf("p112p112p11-"), 7);
        due("foes behind all others", faultOf("p110p11-o02"), 10);
        due("of one far away, behind all others", faultOf("p119p11-x"), 8);
        due("the first such", faultOf("p112 p113 p112"), 8);
        EnemyByLot x = new EnemyByLot();
        x.text(0, 1);
        x.put(0, 0, 112 + 128);
        due("a byte below 0", x.fault(0), 0);
        due("fault(4)", x.fault(4), BAD);
        found(x, "fault(1)", x.fault(1), NOTHING);
    }

    private static void town() {
        EnemyByLot x = with(SIX);
        due("count(0)", x.count(0), 6);
        week(x, 1, 1, 1, 1, 1, 1);
        x.keep(1);
        write(x, 1, "p111p11");
        due("town() of a FAULT", x.town(1), STATE);
        due("the old one stays", x.count(0), 6);
        due("its turns stay", x.count(3), 1);
        due("kept ones stay", x.count(9), 1);
        write(x, 1, "p211 p21-o01");
        due("town(1)", x.town(1), 2);
        due("no turns", x.count(3), 0);
        due("no kept ones", x.count(9), 0);
        due("nothing done", trait(x, 0, 5), 0);
        due("no fines", x.count(5), 0);
        due("one love", x.count(2), 1);
        due("whom it loves", trait(x, 1, 8), 1);
        due("town(4)", x.town(4), BAD);
        due("town(-1)", x.town(-1), BAD);
        found(x, "town(3)", x.town(3), NOTHING);
        write(x, 0, "p21- p21-");
        x.town(0);
        due("no love of the town ahead", trait(x, 1, 8), 0);
    }

    private static void person() {
        EnemyByLot x = with("w932 p11- h301 o12 o01");
        int[][] want = {{4, 9, 3, 2, NONE, 0, 0, 0, 2}, {0, 1, 1, NONE, 2, 0, 0, 0, 5}, {3, 3, 0, 1, 0, 0, 0, 0, 2}};
        for (int p = 0; p < 3; p++) {
            for (int what = 0; what < 9; what++) {
                due("person(" + p + ", " + what + ")", trait(x, p, what), want[p][what]);
            }
        }
        week(x, 1, 1, 0);
        due("deeds", trait(x, 0, 5), 1);
        due("fines", trait(x, 0, 6), 1);
        due("reached", trait(x, 1, 7), 1);
        due("person(3, 0)", x.person(3, 0), BAD);
        due("person(-1, 0)", x.person(-1, 0), BAD);
        due("person(0, 9)", x.person(0, 9), BAD);
        due("person(0, -1)", x.person(0, -1), BAD);
        due("asked() behind refusals", x.asked(), 1);
    }

    private static void mark() {
        EnemyByLot x = with(SIX);
        due("a ZEALOT", x.mark(1, 1), 3);
        due("a SWORN one as a ZEALOT", x.mark(4, 1), 8);
        due("a SAINT", x.mark(2, 2), 4);
        due("a HEDGER", x.mark(3, 3), 1);
        due("a LENIENT one as a HEDGER", x.mark(5, 3), 0);
        due("a SWORN one", x.mark(4, 4), 2);
        due("a LENIENT one", x.mark(5, 5), 1);
        due("BAD", x.mark(0, 0), BAD);
        due("BAD", x.mark(0, 6), BAD);
        due("BAD", x.mark(6, 1), BAD);
        due("BAD", x.mark(-1, 1), BAD);
        found(x, "a PERSON as a ZEALOT", x.mark(0, 1), UNLIKE);
        found(x, "a ZEALOT as a SWORN one", x.mark(1, 4), UNLIKE);
        found(x, "a HEDGER as a LENIENT one", x.mark(3, 5), UNLIKE);
        found(x, "a SWORN one as a HEDGER", x.mark(4, 3), UNLIKE);
        x = with("w902 l911 s900 o12");
        due("a FAULT: no town", x.count(0), 0);
        x = with("w902 l920 s90- p101 z90- o12");
        due("no STRENGTH besides", x.mark(2, 2), 2);
        due("against a SAINT of 3, 1 less", x.mark(0, 4), 5);
        due("it owes", x.mark(1, 5), 1);
        x.exchange(1, 4);
        due("it is FREE", x.mark(1, 5), 0);
        x = with("w901 l90- o01");
        due("it LOVES", x.mark(0, 4), NONE);
        x = with("w90- l900 o01");
        due("it is FREE", x.mark(0, 4), NONE);
        due("it LOVES, so none is due", x.mark(1, 5), 0);
        x = with("p10- l900");
        week(x, 1, 2);
        due("thwarted by 0, reached", trait(x, 0, 7), 1);
        due("its VICTIM has reached", x.mark(1, 5), 0);
    }

    private static void strength() {
        EnemyByLot x = with(SIX);
        int[] plain = {3, 3, 1, 2, 8, 1};
        for (int p = 0; p < 6; p++) {
            for (int q = 0; q < 6; q++) {
                boolean loves = (p == 0 && q == 3) || (p == 3 && q == 0) || (p == 1 && q == 2) || (p == 2 && q == 1);
                int want = p == q ? BAD : loves ? 0 : q == 2 ? plain[p] - 1 : plain[p];
                due("strength(" + p + ", " + q + ")", x.strength(p, q), want);
            }
        }
        due("strength(0, 6)", x.strength(0, 6), BAD);
        due("strength(-1, 0)", x.strength(-1, 0), BAD);
        x = with("l91- s90- h93- l90- p90- l92-");
        due("half of 1, 1 less", x.strength(0, 2), 0);
        due("0 at least against a SAINT", x.strength(4, 1), 0);
        due("half of 3, cut", x.strength(2, 0), 1);
        due("half of 3, cut, against a SAINT", x.strength(2, 1), 0);
        due("half of 2, 1 less", x.strength(5, 0), 0);
        due("half of 0, 1 less", x.strength(3, 0), 0);
    }

    private static void weekCall() {
        EnemyByLot x = with(SIX);
        due("a week", week(x, 1, 1, 2, 1, 1, 2), 0);
        int[] deeds = {0, 1, 0, 0, 1, 0};
        int[] fines = {1, 0, 0, 1, 1, 0};
        for (int p = 0; p < 6; p++) {
            due("deeds of " + p, trait(x, p, 5), deeds[p]);
            due("fines of " + p, trait(x, p, 6), fines[p]);
        }
        due("turns", x.count(3), 1);
        x = with("p111 p12-");
        due("both reach", week(x, 1, 1), 2);
        due("a fine in that week", trait(x, 0, 6), 1);
        due("nothing more", week(x, 1, 1), 0);
        due("no deed more", trait(x, 0, 5), 1);
        due("no fine more", trait(x, 0, 6), 1);
        due("nothing lost", week(x, 2, 0), 0);
        due("it stays", trait(x, 1, 5), 1);
        x = with("p111 p11-");
        due("thwarted in that week", week(x, 2, 1), 0);
        due("no fine for one who thwarted", x.count(5), 0);
        due("rests: a fine", week(x, 0, 0), 0);
        due("a fine", trait(x, 0, 6), 1);
        x = with("s111 p110");
        due("a SAINT has no duty", week(x, 0, 0), 0);
        due("fines", x.count(5), 1);
        x = with("p310 p31-");
        due("refused town", x.count(0), 0);
        due("STATE", week(x, 1, 1), STATE);
        due("BAD", x.week(6), BAD);
        due("BAD", x.week(-1), BAD);
        due("STATE ahead of NOTHING", x.week(4), STATE);
        x = with("p311 p31-");
        found(x, "a ROW that is missing", x.week(4), NOTHING);
        found(x, "too few", week(x, 9), SIZE);
        found(x, "too many", week(x, 1, 1, 1), SIZE);
        found(x, "none such", week(x, 1, 3), UNLIKE);
        found(x, "none such", week(x, -1, 1), UNLIKE);
        found(x, "a FREE one thwarts", week(x, 1, 2), UNLIKE);
        due("no turn by refusals", x.count(3), 0);
        for (int i = 0; i < 40; i++) {
            due("week " + i, week(x, 0, 0), 0);
        }
        due("turns", x.count(3), 40);
        due("FULL", week(x, 0, 0), FULL);
        found(x, "FULL last", week(x, 0, 2), UNLIKE);
        found(x, "FULL last", week(x, 0), SIZE);
        due("fines", x.count(5), 40);
    }

    private static void exchange() {
        EnemyByLot x = with("p311 p31- p310 p31-");
        due("with one that is FREE", x.exchange(0, 3), 1);
        due("VICTIM of 0", trait(x, 0, 3), NONE);
        due("VICTIM of 3", trait(x, 3, 3), 1);
        due("FOE of 1", trait(x, 1, 4), 3);
        due("both FREE", x.exchange(0, 1), 1);
        due("turns", x.count(3), 2);
        due("its own FOE", x.exchange(2, 0), STATE);
        due("its own FOE", x.exchange(0, 2), STATE);
        due("its own FOE", x.exchange(1, 3), STATE);
        due("the same", x.exchange(1, 1), BAD);
        due("none", x.exchange(4, 1), BAD);
        due("none", x.exchange(1, -1), BAD);
        for (int i = 2; i < 40; i++) {
            due("exchange " + i, x.exchange(2, 3), 1);
        }
        due("FULL", x.exchange(2, 3), FULL);
        due("FULL last", x.exchange(0, 2), STATE);
        due("FULL last", x.exchange(0, 0), BAD);
        due("FULL for weeks too", week(x, 0, 0, 0, 0), FULL);
    }

    private static void undo() {
        EnemyByLot x = with("p311 z310");
        due("none yet", x.undo(0), 0);
        due("none such", x.undo(1), BAD);
        week(x, 1, 0);
        week(x, 1, 0);
        long twice = x.digest();
        week(x, 1, 2);
        due("deeds", trait(x, 0, 5), 1);
        due("undo(-1)", x.undo(-1), BAD);
        due("undo(4)", x.undo(4), BAD);
        due("undo(3)", x.undo(3), 0);
        due("undo(2)", x.undo(2), 1);
        lay(x, 5, 1, 0);
        due("as it was", x.digest(), twice);
        due("reached", week(x, 1, 0), 1);
        due("undo(0)", x.undo(0), 3);
        due("not reached", trait(x, 0, 7), 0);
        due("fines", x.count(5), 0);
        x = with("p312 p31- p311");
        due("persons", x.count(0), 3);
        x.exchange(0, 1);
        x.undo(0);
        due("VICTIM again", trait(x, 0, 3), 2);
    }

    private static void keepAndOn() {
        EnemyByLot x = new EnemyByLot();
        due("keep(3)", x.keep(3), BAD);
        due("keep(-1)", x.keep(-1), BAD);
        due("no persons", x.keep(0), STATE);
        due("on(3)", x.on(3), BAD);
        due("on(-1)", x.on(-1), BAD);
        found(x, "on(2)", x.on(2), NOTHING);
        x = with("p311 p31- z410");
        due("keep at 0", x.keep(0), 0);
        week(x, 1, 1, 0);
        x.exchange(1, 2);
        long then = x.digest();
        due("turns", x.keep(2), 2);
        due("kept", x.count(9), 2);
        week(x, 1, 1, 1);
        due("undone", x.undo(0), 3);
        due("on(2)", x.on(2), 2);
        due("deeds", trait(x, 0, 5), 1);
        due("fines", x.count(5), 2);
        due("VICTIM of 2", trait(x, 2, 3), NONE);
        due("VICTIM of 1", trait(x, 1, 3), 0);
        due("undo behind on()", x.undo(1), 1);
        due("VICTIM of 2", trait(x, 2, 3), 0);
        due("it is still kept", x.on(2), 2);
        due("keep again", x.keep(2), 2);
        due("on(0)", x.on(0), 0);
        due("no deeds", trait(x, 0, 5), 0);
        found(x, "on(1)", x.on(1), NOTHING);
        due("on(2)", x.on(2), 2);
        x.keep(0);
        x.on(0);
        due("digest differs by what is kept", x.digest() == then ? 1 : 0, 0);
    }

    private static void rings() {
        EnemyByLot x = new EnemyByLot();
        x.row(0, 1);
        x.lay(0, 0, 5);
        x.lay(0, 0, 5);
        due("without persons", x.rings(), 0);
        due("asked()", x.asked(), 0);
        x = with(SIX);
        due("one", x.rings(), 1);
        due("asked()", x.asked(), 63);
        x = with("p115 p113 p114 p111 p112 p110");
        due("three", x.rings(), 3);
        due("of alike ones the least PERSON", x.asked(), 33);
        x = with("p111 p110 p113 p114 p112 p11-");
        due("two", x.rings(), 2);
        due("the longest", x.asked(), 28);
        x = with("p111 p112 p11- p111");
        due("a FAULT", x.count(0), 0);
        x = with("p111 p112 p11- p110");
        due("a chain is none", x.rings(), 0);
        due("asked()", x.asked(), 0);
    }

    private static void allies() {
        EnemyByLot x = with(SIX);
        due("allies(0)", x.allies(0), 1 << 4 | 1 << 2);
        due("allies(1)", x.allies(1), 1 << 5 | 1 << 3);
        due("allies(6)", x.allies(6), BAD);
        due("allies(-1)", x.allies(-1), BAD);
        x = with("p111 p112 p113 p114 p110");
        due("a ring of five", x.allies(0), 30);
        x = with("p111 p112 p113 p11-");
        due("a chain", x.allies(3), 2);
        due("a chain", x.allies(2), 1);
        due("a chain", x.allies(1), 0);
        due("a chain", x.allies(0), 0);
    }

    private static void safe() {
        EnemyByLot x = new EnemyByLot();
        due("no persons", x.safe(), STATE);
        x = with(SIX);
        due("by LOVE", x.safe(), 4);
        x = with("p111 p112 s110");
        due("a SAINT by 1", x.safe(), 4);
        week(x, 1, 0, 0);
        due("REACHED", x.safe(), 5);
        x = with("p111 p11-");
        due("nobody's VICTIM", x.safe(), 1);
        x = with("l311 p11-");
        due("by no STRENGTH", x.safe(), 3);
    }

    private static void weeks() {
        EnemyByLot x = with("w951 l950");
        due("never", x.weeks(1, 0), 9);
        due("each week", x.weeks(1, 1), NONE);
        due("each eighth", x.weeks(1, 8), NONE);
        due("each ninth", x.weeks(1, 9), 17);
        due("by 1 each week", x.weeks(0, 1), NONE);
        due("by 1 each second", x.weeks(0, 2), 17);
        due("by 1 each ninth", x.weeks(0, 9), 10);
        due("n 10", x.weeks(0, 10), BAD);
        due("n -1", x.weeks(0, -1), BAD);
        due("none such", x.weeks(2, 1), BAD);
        week(x, 1, 1);
        due("DEEDS as they are", x.weeks(1, 0), 8);
        due("counted from now on", x.weeks(1, 9), 8);
        due("counted from now on", x.weeks(1, 8), NONE);
        due("nothing done in truth", trait(x, 1, 5), 1);
        x = with("p11- p11-");
        due("without a FOE", x.weeks(0, 1), 1);
        week(x, 1, 0);
        due("REACHED", x.weeks(0, 1), 0);
        x = with("z901 p900");
        due("28 or more", x.weeks(1, 1), NONE);
        due("by 1 each second", x.weeks(1, 2), 17);
        x = with("p921 p90-");
        due("by 2 each third", x.weeks(1, 3), 23);
        due("by 2 each second", x.weeks(1, 2), NONE);
    }

    private static void thwart() {
        EnemyByLot x = with("w951 l950");
        due("30 weeks", x.thwart(1, 30), 8);
        due("9 weeks", x.thwart(1, 9), 9);
        due("8 weeks", x.thwart(1, 8), 9);
        due("16 weeks", x.thwart(1, 16), 9);
        due("17 weeks", x.thwart(1, 17), 8);
        due("0 weeks", x.thwart(1, 0), BAD);
        due("31 weeks", x.thwart(1, 31), BAD);
        due("none such", x.thwart(2, 1), BAD);
        x = with("p11- p11-");
        due("without a FOE", x.thwart(0, 1), NONE);
        x = with("p21- p11-");
        due("without a FOE, too early", x.thwart(0, 1), 9);
        x = with("p111 p11-");
        due("1 of 1", x.thwart(1, 1), 1);
        week(x, 0, 1);
        due("REACHED", x.thwart(1, 1), NONE);
    }

    private static void ways() {
        EnemyByLot x = with("p111 p210");
        due("2 of 3 weeks at least", x.ways(1, 3), 4);
        due("asked()", x.asked(), 2);
        due("0 weeks", x.ways(1, 0), 1);
        due("asked()", x.asked(), 0);
        due("8 weeks", x.ways(1, 8), 9);
        due("asked()", x.asked(), 7);
        due("9 weeks", x.ways(1, 9), BAD);
        due("-1 weeks", x.ways(1, -1), BAD);
        due("none such", x.ways(2, 0), BAD);
        due("asked() behind refusals", x.asked(), 7);
        week(x, 1, 0);
        due("REACHED", x.ways(0, 0), 0);
        due("asked()", x.asked(), NONE);
        x = with("p111 p110");
        due("REACHED, then it stays so", x.ways(1, 2), 1);
        due("asked()", x.asked(), 2);
        x = with("p21- p11-");
        due("without a FOE, too early", x.ways(0, 1), 2);
        due("asked()", x.asked(), 0);
        due("without a FOE", x.ways(0, 2), 0);
        due("asked()", x.asked(), NONE);
    }

    private static void wishes() {
        EnemyByLot x = new EnemyByLot();
        due("no persons", x.wishes(), STATE);
        x = with(SIX);
        due("wishes()", x.wishes(), 2);
        due("asked()", x.asked(), 2);
        x = with("p132 p12- p11-");
        due("one that is FREE has less", x.wishes(), 1);
        due("asked()", x.asked(), 1);
        x = with("p11- p132 p11-");
        due("the lesser is FREE", x.wishes(), 1);
        due("asked()", x.asked(), 1);
        x = with("p122 p113 p11- p11- o12");
        due("one much better, one worse: only with 3", x.wishes(), 1);
        due("asked()", x.asked(), 3);
        x = with("p112 p12- p11-");
        due("one that is FREE has more", x.wishes(), 0);
        due("asked()", x.asked(), NONE);
        x = with("p112 p113 p11- p11-");
        due("alike", x.wishes(), 0);
        x = with("p112 p113 p11- p11- o03");
        due("one better, one alike", x.wishes(), 1);
        due("asked()", x.asked(), 1);
        x = with("p112 p123 p11- p11- o03");
        due("one worse; a FREE one with less", x.wishes(), 1);
        due("asked()", x.asked(), 8);
        x = with("p112 p110 p11- o12");
        due("one would be its own FOE", x.wishes(), 0);
    }

    private static void mildest() {
        EnemyByLot x = new EnemyByLot();
        due("BAD", x.mildest(6), BAD);
        due("BAD", x.mildest(-1), BAD);
        due("no persons", x.mildest(0), STATE);
        x = with(SIX);
        due("mildest(1)", x.mildest(1), 9);
        due("0's VICTIM", place(x, 1, 0), 3);
        x = with("p111 p110 p11-");
        due("alike: the first", x.mildest(2), 2);
        due("0's VICTIM", place(x, 2, 0), 1);
        due("1's VICTIM", place(x, 2, 1), 0);
        due("2's VICTIM", place(x, 2, 2), NONE);
        x = with("p112 p10- p11- p10-");
        x.row(2, 9);
        due("FREE ones are milder", x.mildest(2), 0);
        due("0's VICTIM", place(x, 2, 0), NONE);
        due("1's VICTIM", place(x, 2, 1), 2);
        found(x, "the ROW is anew", x.at(2, 4), BEYOND);
        due("the MAP of now stays", trait(x, 0, 3), 2);
        due("turns", x.count(3), 0);
    }

    private static void none() {
        EnemyByLot x = new EnemyByLot();
        due("BAD", x.none(6), BAD);
        due("no persons", x.none(0), STATE);
        x = with("p222 p210 p21- z20-");
        found(x, "missing", x.none(3), NOTHING);
        lay(x, 3, 2, 0, NONE);
        found(x, "too few", x.none(3), SIZE);
        lay(x, 3, 2, 0, NONE, NONE);
        due("that of now", x.none(3), 1);
        lay(x, 3, NONE, 2, NONE, 0);
        due("milder", x.none(3), 1);
        lay(x, 3, NONE, NONE, 0, 2);
        due("milder", x.none(3), 1);
        lay(x, 3, NONE, 0, NONE, 2);
        due("milder", x.none(3), 1);
        lay(x, 3, 2, NONE, 0, NONE);
        due("alike", x.none(3), 1);
        lay(x, 3, 0, 2, NONE, NONE);
        found(x, "its own FOE", x.none(3), UNLIKE);
        lay(x, 3, 2, 2, NONE, 0);
        found(x, "two of one", x.none(3), UNLIKE);
        lay(x, 3, 2, 3, NONE, NONE);
        found(x, "other VICTIMS", x.none(3), UNLIKE);
        lay(x, 3, 2, NONE, NONE, NONE);
        found(x, "fewer VICTIMS", x.none(3), UNLIKE);
        lay(x, 3, 2, 0, 1, NONE);
        found(x, "more VICTIMS", x.none(3), UNLIKE);
        lay(x, 3, 2, 0, NONE, 4);
        found(x, "none such", x.none(3), UNLIKE);
        lay(x, 3, 2, 0, NONE, -1);
        found(x, "none such", x.none(3), UNLIKE);
        lay(x, 3, 2, 0, NONE, 32);
        found(x, "none such", x.none(3), UNLIKE);
        x = with("p212 p23- p21-");
        lay(x, 3, NONE, 2, NONE);
        due("worse", x.none(3), 0);
        x = with("p23- p212 p21-");
        lay(x, 3, 2, NONE, NONE);
        due("worse by the first", x.none(3), 0);
    }

    private static void maps() {
        EnemyByLot x = new EnemyByLot();
        due("no persons", x.maps(), STATE);
        int[] want = {1, 2, 9, 44, 265};
        StringBuilder town = new StringBuilder("p11-");
        for (int n = 2; n <= 6; n++) {
            town.append("p11-");
            x = with(town.toString());
            due("maps() of " + n, x.maps(), 1);
            chance(x, "maps() of " + n, want[n - 2], 1);
        }
        x = with(SIX);
        x.maps();
        chance(x, "with LOVES", 116, 1);
        x = with("p111 p110 o01");
        due("none", x.maps(), 1);
        chance(x, "none", 0, 1);
    }

    private static void odds() {
        EnemyByLot x = with("p11-p11-p11-p11- o01");
        due("odds(0, 2)", x.odds(0, 2), 1);
        chance(x, "odds(0, 2)", 1, 2);
        due("odds(0, 1)", x.odds(0, 1), 1);
        chance(x, "odds(0, 1)", 0, 1);
        x = with(SIX);
        x.odds(0, 1);
        chance(x, "odds(0, 1)", 17, 58);
        due("the same", x.odds(1, 1), BAD);
        due("none such", x.odds(0, 6), BAD);
        due("none such", x.odds(-1, 0), BAD);
        chance(x, "behind refusals", 17, 58);
        x = with("p11-p11-p11- o01 o02");
        found(x, "there is none", x.odds(0, 1), NOUGHT);
    }

    private static void both() {
        EnemyByLot x = with("p11-p11-p11-p11-");
        due("both(0, 2)", x.both(0, 2), 1);
        chance(x, "both(0, 2)", 1, 9);
        x = with("p11-p11-p11-");
        due("both(0, 2)", x.both(0, 2), 1);
        chance(x, "both(0, 2)", 0, 1);
        x = with(SIX);
        x.both(0, 1);
        chance(x, "both(0, 1)", 9, 116);
        due("the same", x.both(1, 1), BAD);
        due("none such", x.both(6, 1), BAD);
        x = with("p11-p11- o01");
        found(x, "there is none", x.both(0, 1), NOUGHT);
    }

    private static void fits() {
        EnemyByLot x = new EnemyByLot();
        due("BAD", x.fits(6), BAD);
        due("no persons", x.fits(0), STATE);
        x = with(SIX);
        found(x, "missing", x.fits(0), NOTHING);
        x.row(0, 0);
        due("no weeks", x.fits(0), 1);
        chance(x, "no weeks, LOVE or not", 265, 1);
        lay(x, 0, 1, 8);
        due("one who LOVES", x.fits(0), 1);
        chance(x, "one who LOVES", 53, 1);
        lay(x, 0, 3, 6, 16, 32);
        x.fits(0);
        chance(x, "two weeks", 4, 1);
        lay(x, 0, 1, 3);
        x.fits(0);
        chance(x, "more lost than THWARTED", 0, 1);
        lay(x, 0, 0, 1);
        x.fits(0);
        chance(x, "lost by none", 0, 1);
        lay(x, 0, 0, 0, 63, 63);
        x.fits(0);
        chance(x, "nothing told", 265, 1);
        lay(x, 0, 1, 2, 64);
        found(x, "not by pairs", x.fits(0), SIZE);
        lay(x, 0, 1, 64);
        found(x, "no set", x.fits(0), UNLIKE);
        lay(x, 0, -1, 1);
        found(x, "no set", x.fits(0), UNLIKE);
    }

    private static void sure() {
        EnemyByLot x = new EnemyByLot();
        due("no persons: none such", x.sure(0, 0), BAD);
        x = with("p11-p11-p11-p11-");
        due("BAD", x.sure(4, 0), BAD);
        due("BAD", x.sure(0, 6), BAD);
        found(x, "missing", x.sure(0, 0), NOTHING);
        lay(x, 0, 1);
        found(x, "not by pairs", x.sure(0, 0), SIZE);
        lay(x, 0, 1, 16);
        found(x, "no set", x.sure(0, 0), UNLIKE);
        lay(x, 0, 1, 1);
        found(x, "none fits", x.sure(0, 0), NOUGHT);
        lay(x, 0, 3, 3);
        due("sure(0, 0)", x.sure(0, 0), 1);
        due("sure(3, 0)", x.sure(3, 0), 2);
        lay(x, 0, 1, 2);
        due("sure(0, 0)", x.sure(0, 0), 1);
        due("by some another one", x.sure(1, 0), NONE);
    }

    private static void ask() {
        EnemyByLot x = new EnemyByLot();
        due("BAD", x.ask(6), BAD);
        due("no persons", x.ask(0), STATE);
        x = with("p11-p11-p11-");
        found(x, "missing", x.ask(0), NOTHING);
        lay(x, 0, 1);
        found(x, "not by pairs", x.ask(0), SIZE);
        lay(x, 0, 1, 8);
        found(x, "no set", x.ask(0), UNLIKE);
        lay(x, 0, 1, 1);
        found(x, "none fits", x.ask(0), NOUGHT);
        x.row(0, 0);
        due("ask(0)", x.ask(0), 1);
        due("asked()", x.asked(), 1);
        lay(x, 0, 1, 2);
        due("one is left", x.ask(0), 0);
        due("asked()", x.asked(), 1);
        x = with("p11-p11-p11-p11-");
        x.row(0, 0);
        due("one tells more than two", x.ask(0), 1);
        due("asked()", x.asked(), 3);
        x = with(SIX);
        lay(x, 0, 3, 6, 16, 32);
        due("ask(0)", x.ask(0), 4);
        due("asked()", x.asked(), 2);
    }

    private static void lots() {
        EnemyByLot x = new EnemyByLot();
        due("no persons", x.lots(1, 1), STATE);
        x = with("p921 p920 p91-");
        due("n 0", x.lots(0, 1), BAD);
        due("n 21", x.lots(21, 1), BAD);
        due("seed 0", x.lots(1, 0), BAD);
        due("seed -1", x.lots(1, -1), BAD);
        due("seed 2147483647", x.lots(1, 2147483647), BAD);
        due("seed 2147483646", x.lots(20, 2147483646), x.count(4));
        due("turns", x.count(3), 20);
        int reached = x.count(4);
        due("n 20", x.lots(20, 5) + reached, x.count(4));
        due("FULL", x.lots(1, 1), FULL);
        due("FULL last", x.lots(0, 1), BAD);
        x.undo(30);
        due("FULL", x.lots(11, 1), FULL);
        due("no turn by refusals", x.count(3), 30);
        // Seed 1: 48271, 182605794, 1291394886, 1914720637, 2078669041, 407355683 are 1, 1, 1, 0, 0, 2.
        x = with("p921 p922 p923 p924 p925 p920");
        due("none REACHED", x.lots(1, 1), 0);
        int[] deeds = {0, 1, 1, 0, 0, 0};
        for (int p = 0; p < 6; p++) {
            due("deeds of " + p, trait(x, p, 5), deeds[p]);
            due("fines of " + p, trait(x, p, 6), p == 5 ? 0 : 1);
        }
        x = with("p921 p922 p923 p924 p925 p11-");
        due("a DEED instead, by one that is FREE", x.lots(1, 1), 1);
        due("its deeds", trait(x, 5, 5), 1);
        // The numbers of the second week go on from those of the first.
        x = with("p92- p922 p920");
        due("two weeks", x.lots(2, 1), 0);
        due("deeds of 0", trait(x, 0, 5), 0);
        due("deeds of 1", trait(x, 1, 5), 1);
        due("fines of 2", trait(x, 2, 6), 1);
        x = with(SIX);
        due("REACHED", x.lots(20, 77), x.count(4));
        due("turns", x.count(3), 20);
    }

    private static void told() {
        EnemyByLot x = new EnemyByLot();
        due("asked() before", x.asked(), 0);
        due("upper() before", x.upper(), 0);
        due("lower() before", x.lower(), 1);
        x = with(SIX);
        x.person(4, 0);
        x.weeks(0, 1);
        x.thwart(0, 3);
        x.mildest(0);
        x.maps();
        x.allies(0);
        x.lots(1, 1);
        x.digest();
        x.count(0);
        x.fits(9);
        due("asked() stays", x.asked(), 4);
        due("upper() stays", x.upper(), 116);
        x.odds(0, 4);
        x.row(1, 0);
        x.sure(0, 1);
        x.ask(1);
        due("upper() behind sure(), ask()", x.upper(), 6);
        due("lower()", x.lower(), 29);
        x.fits(1);
        due("upper() by fits()", x.upper(), 265);
        due("lower() by fits()", x.lower(), 1);
    }

    private static void count() {
        EnemyByLot x = with("w911 z920 s91- p143 o01 o23");
        int[] fault = {0, 0, 0, 0, 0, 0, 0, 0, 1, 0};
        for (int what = 0; what < 10; what++) {
            due("count(" + what + ")", x.count(what), fault[what]);
        }
        x = with("w211 z220 s91- p142 o01 o23");
        x.row(3, 0);
        x.row(4, 0);
        week(x, 1, 1, 1, 1);
        week(x, 1, 0, 1, 1);
        x.exchange(2, 3);
        due("its own FOE", x.count(3), 2);
        x.keep(1);
        int[] want = {4, 3, 2, 2, 2, 0, 2, 3, 1, 1};
        for (int what = 0; what < 10; what++) {
            due("count(" + what + ")", x.count(what), want[what]);
        }
        due("count(10)", x.count(10), BAD);
        due("count(-1)", x.count(-1), BAD);
        x = with("p211 p22- p210");
        week(x, 0, 0, 0);
        week(x, 0, 0, 0);
        due("all FINES", x.count(5), 4);
    }

    private static void findings() {
        EnemyByLot x = with("p11-p11-o01");
        due("before", x.finding(), 0);
        int[] want = {0, 3, 2, 1, 1, 2};
        x.tear(0);
        x.tear(0);
        x.tear(9);
        x.fault(3);
        x.row(0, -1);
        x.row(0, -1);
        x.row(0, 2);
        x.at(0, 2);
        x.at(0, -1);
        x.odds(0, 1);
        x.mark(0, 1);
        due("finding()", x.finding(), UNLIKE);
        for (int f = 1; f <= 5; f++) {
            due("findings(" + f + ")", x.findings(f), want[f]);
        }
        due("findings(0)", x.findings(0), BAD);
        due("findings(6)", x.findings(6), BAD);
        x.row(0, 41);
        due("finding() behind BAD", x.finding(), UNLIKE);
    }

    private static long mix(long h, long... values) {
        long mixed = h;
        for (long v : values) {
            mixed = 31 * mixed + v;
        }
        return mixed;
    }

    private static void digest() {
        EnemyByLot x = new EnemyByLot();
        long want = mix(17, 0, 0, 0, 0, 0, 0, 0, 0, 0, 0);
        want = mix(want, -1, -1, -1, -1, -1, -1, -1, -1, -1, -1, -1, -1, -1);
        due("a new one", x.digest(), want);
        x = with("p121 w21- o01");
        x.keep(2);
        x.exchange(0, 1);
        due("its own FOE", x.count(3), 0);
        week(x, 1, 1);
        x.keep(0);
        lay(x, 1, 7, -8);
        x.text(1, 2);
        x.put(1, 1, 200);
        want = mix(17, 2, 1, 1, 1, 1, 0, 1, 2, 2, 2);
        want = mix(want, 0, 1, 2, 1, NONE, 1, 0, 1, 2);
        want = mix(want, 4, 2, 1, NONE, 0, 1, 0, 0, 1);
        want = mix(want, 1, -1, 0);
        want = mix(want, -1, 2, 7, -8, -1, -1, -1, 2, 1, 1);
        want = mix(want, 13, 'p', '1', '2', '1', ' ', 'w', '2', '1', '-', ' ', 'o', '0', '1');
        want = mix(want, 2, 32, -56, -1, -1);
        due("a town", x.digest(), want);
    }

    private static void constants() throws ReflectiveOperationException {
        String[] names = {"BAD", "FULL", "FINDING", "STATE", "SPENT", "NONE"};
        int[] values = {-1, -2, -3, -4, -6, -9};
        for (int i = 0; i < names.length; i++) {
            Field field = EnemyByLot.class.getField(names[i]);
            due(names[i], field.getInt(null), values[i]);
        }
    }

    private static void named(String name) {
        promise = name;
    }

    public static void main(String[] args) throws ReflectiveOperationException {
        named("the face"); constants();
        named("1 a new object"); newObject();
        named("2 row"); row();
        named("3 lay"); lay();
        named("4 at"); at();
        named("5 tear"); tear();
        named("6 copy"); copy();
        named("7 mean"); mean();
        named("8 text"); text();
        named("9 put"); put();
        named("10 fault"); fault();
        named("11 town"); town();
        named("12 person"); person();
        named("13 mark"); mark();
        named("14 strength"); strength();
        named("15 week"); weekCall();
        named("16 exchange"); exchange();
        named("17 undo"); undo();
        named("18 keep, 19 on"); keepAndOn();
        named("20 rings"); rings();
        named("21 allies"); allies();
        named("22 safe"); safe();
        named("23 weeks"); weeks();
        named("24 thwart"); thwart();
        named("25 ways"); ways();
        named("26 wishes"); wishes();
        named("27 mildest"); mildest();
        named("28 none"); none();
        named("29 maps"); maps();
        named("30 odds"); odds();
        named("31 both"); both();
        named("32 fits"); fits();
        named("33 sure"); sure();
        named("34 ask"); ask();
        named("35 lots"); lots();
        named("36 asked, 37 upper, 38 lower"); told();
        named("39 count"); count();
        named("40 finding, 41 findings"); findings();
        named("42 digest"); digest();
        System.out.println(wrong == 0 ? "all promises hold" : wrong + " answers are not as due");
        if (wrong != 0) {
            System.exit(1);
        }
    }
}
