/** The boundaries of the promises 18 to 20: what is gathered, and what it is together. */
public final class GatheringBoundaryTests {
    private static final int BAD = -1;
    private static final int FULL = -3;
    private static final int ERROR = -4;
    private static final String MOST = "999999999999999999";
    private static final int COUNT = 0;
    private static final int SUM = 1;
    private static final int LEAST = 2;
    private static final int GREATEST = 3;
    private static final int AVERAGE = 4;
    private static final int SAMPLE = 5;
    private static final int JOINED = 6;

    private static String times(String value, int count) {
        return (value + " ").repeat(count).trim();
    }

    /** Promise 18: sorts 0 .. 6, "BAD for others". */
    private static void thereAreSorts0To6() {
        Desk d = new Desk();
        int text = d.value("','");
        for (int sort = COUNT; sort <= JOINED; sort++) {
            Due.is("gather " + sort, d.gather(sort, false, text), 0);
            Due.is("gather " + sort + ", once", d.gather(sort, true, text), 0);
        }
        for (int sort : new int[] {-1, 7, 8, Integer.MIN_VALUE, Integer.MAX_VALUE}) {
            Due.is("gather " + sort, d.gather(sort, false, text), BAD);
            Due.is("gather " + sort + ", once", d.gather(sort, true, text), BAD);
        }
    }

    /** Promise 18: "with a text of kind 5, by its number, between; not looked at by others", "BAD .. when 6 has no such text". */
    private static void whatStandsBetween() {
        Desk d = new Desk();
        int[] right = d.allValues("'' ',' '" + "x".repeat(64) + "'");
        int[] wrong = d.allValues("''@0 ','@1 ''^0 1 1.0 ?1 :1 true");
        for (int between : right) {
            Due.is("JOINED by " + between, d.gather(JOINED, false, between), 0);
        }
        for (int between : wrong) {
            Due.is("JOINED by " + between, d.gather(JOINED, false, between), BAD);
        }
        int[] none = {0, -1, right.length + wrong.length + 1, Integer.MIN_VALUE, Integer.MAX_VALUE};
        for (int between : none) {
            Due.is("JOINED by " + between, d.gather(JOINED, false, between), BAD);
            for (int sort = COUNT; sort < JOINED; sort++) {
                Due.is("sort " + sort + " by " + between, d.gather(sort, false, between), 0);
            }
        }
        Due.is("JOINED by 1 when there is none", new Desk().gather(JOINED, false, 1), BAD);
    }

    /** Promise 18: "(what was gathered stays)", and the sort, and whether only once; a right call gathers anew. */
    private static void whatWasGatheredStays() {
        Desk d = new Desk();
        int[] two = d.allValues("3 4");
        d.gather(SUM, true, 0);
        d.add(two[0]);
        d.add(two[1]);
        for (int sort : new int[] {-1, 7}) {
            d.gather(sort, false, 0);
            Due.is("stays after sort " + sort, d.add(two[0]), 2);
            Due.is("the sum stays after sort " + sort, d.show(d.together()), "7");
        }
        d.gather(JOINED, false, two[0]);
        Due.is("stays after JOINED by a whole", d.add(two[1]), 2);
        Due.is("the sum stays after JOINED by a whole", d.show(d.together()), "7");
        Due.is("gather anew", d.gather(SUM, false, 0), 0);
        Due.is("SUM of none again", d.show(d.together()), "0");
        Due.is("from 1 again", d.add(two[0]), 1);
        Due.is("not only once any more", d.add(two[0]), 2);
        Due.is("together", d.show(d.together()), "6");
        Due.is("together again", d.show(d.together()), "6");
        Due.is("more", d.add(two[1]), 3);
        Due.is("more together", d.show(d.together()), "10");
    }

    /** Promise 18: "gathered anew": nothing of what was gathered before counts. */
    private static void nothingStaysOfBefore() {
        String x40 = "x".repeat(40);
        for (int sort = COUNT; sort <= JOINED; sort++) {
            Desk d = new Desk();
            int comma = d.value("','");
            String[] before = {"1 2 3 0.5 -7", "'" + x40 + "' '" + x40 + "'", "ERROR", "?1"};
            for (String written : before) {
                d.gatherAll(sort, false, comma, written);
                d.together();
                d.gatherAll(sort, false, comma, "2");
                String[] want = {"1", "2", "2", "2", "2.0", "2", "'2'"};
                Due.isValue("sort " + sort + " behind " + written, d, d.together(), want[sort]);
                d.gatherAll(sort, false, comma, "");
                String[] none = {"0", "0", "ERROR", "ERROR", "0", "ERROR", "''"};
                Due.isValue("sort " + sort + " of none behind 2", d, d.together(), none[sort]);
            }
        }
    }

    /** Promise 19: "BAD when there is none such"; 0 stands for an ERROR. */
    private static void whatCanBeAdded() {
        Desk d = new Desk();
        Due.is("1 when there is none", d.add(1), BAD);
        Due.is("0 when there is none", d.add(0), 1);
        d.allValues("70 71 72");
        Due.is("the first", d.add(1), 2);
        Due.is("the last", d.add(3), 3);
        for (int none : new int[] {-1, 4, -4, Integer.MIN_VALUE, Integer.MAX_VALUE}) {
            Due.is("add " + none, d.add(none), BAD);
        }
        Due.is("none of them came", d.add(0), 4);
        Due.is("COUNT of all", d.show(d.together()), "2");
        Desk full = Desk.withRoom(0);
        Due.is("add 2000", full.add(2000), 1);
        Due.is("add 2001", full.add(2001), BAD);
    }

    /** Promise 19: "what was there already, an ERROR too, does not count, if each comes only once". */
    private static void eachOnlyOnce() {
        Desk d = new Desk();
        int[] all = d.allValues("3 3.0 '3' '3'@0 '3'^0 true ?3 :3");
        d.gather(COUNT, true, 0);
        for (int i = 0; i < all.length; i++) {
            Due.is("new", d.add(all[i]), i + 1);
            Due.is("there already", d.add(all[i]), i + 1);
        }
        Due.is("an ERROR", d.add(0), 9);
        Due.is("an ERROR there already", d.add(0), 9);
        Due.is("the first there already", d.add(all[0]), 9);
        Due.is("BAD all the same", d.add(99), BAD);
        Due.is("COUNT", d.show(d.together()), "8");
        d.gather(COUNT, false, 0);
        for (int i = 1; i <= 4; i++) {
            Due.is("not only once", d.add(all[0]), 2 * i - 1);
            Due.is("an ERROR, not only once", d.add(0), 2 * i);
        }
    }

    /** Promise 19: "then FULL when there are 500". */
    private static void thereAreAtMost500() {
        Desk d = new Desk();
        d.whole(7);
        for (int i = 1; i <= 499; i++) {
            d.add(1);
        }
        Due.is("the 500th", d.add(0), 500);
        Due.is("the 501st", d.add(1), FULL);
        Due.is("the 501st, an ERROR", d.add(0), FULL);
        Due.is("BAD comes first, above", d.add(2), BAD);
        Due.is("BAD comes first, below", d.add(-1), BAD);
        Due.is("COUNT of 499 and an ERROR", d.show(d.together()), "499");
        Due.is("gather anew", d.gather(COUNT, false, 0), 0);
        Due.is("room again", d.add(1), 1);
    }

    /** 500 of them by the other sorts. */
    private static void all500Together() {
        String[] want = {"500", "1000", "2", "2", "2.0", "2"};
        for (int sort = COUNT; sort <= SAMPLE; sort++) {
            Desk d = new Desk();
            d.whole(2);
            d.gather(sort, false, 0);
            for (int i = 1; i <= 500; i++) {
                d.add(1);
            }
            Due.is("sort " + sort + " of 500", d.show(d.together()), want[sort]);
        }
        Desk d = new Desk();
        int empty = d.value("''");
        d.gather(JOINED, false, empty);
        for (int i = 1; i <= 500; i++) {
            d.add(empty);
        }
        Due.is("JOINED of 500 without bytes", d.show(d.together()), "''");
    }

    /** "COUNT: how many were no ERROR". */
    private static void counts() {
        Due.together(COUNT, false, "", "0");
        Due.together(COUNT, false, "ERROR", "0");
        Due.together(COUNT, false, "ERROR ERROR", "0");
        Due.together(COUNT, false, "1", "1");
        Due.together(COUNT, false, "ERROR 1 ERROR 1", "2");
        Due.together(COUNT, true, "ERROR 1 ERROR 1", "1");
        Due.together(COUNT, true, "", "0");
        Due.together(COUNT, false, "?1 :1 1 1.0 '1' '1'@1 '1'^1 true", "8");
    }

    private static void dueErrorWithOthers(int sort) {
        for (String other : new String[] {"?1", ":1", "'1'", "'1'@1", "'1'^1", "true", "ERROR"}) {
            Due.together(sort, false, other, "ERROR");
            Due.together(sort, false, "1 " + other, "ERROR");
            Due.together(sort, true, other + " 1.5", "ERROR");
        }
    }

    /** "SUM (0 of none) ..: ERROR if one is no 3 or 4, or on the way (in the order in which they came)". */
    private static void sums() {
        Due.together(SUM, false, "", "0");
        Due.together(SUM, false, "0", "0");
        Due.together(SUM, false, "5", "5");
        Due.together(SUM, false, "0.0", "0.0");
        Due.together(SUM, false, "5 5", "10");
        Due.together(SUM, true, "5 5", "5");
        Due.together(SUM, true, "5 5.0", "10.0");
        Due.together(SUM, false, "0.5 0.5", "1.0");
        Due.together(SUM, false, "1 2 0.0", "3.0");
        dueErrorWithOthers(SUM);
        Due.together(SUM, false, "999999999999999998 1", MOST);
        Due.together(SUM, false, MOST + " 1", "ERROR");
        Due.together(SUM, false, "-999999999999999998 -1", "-" + MOST);
        Due.together(SUM, false, "-" + MOST + " -1", "ERROR");
        Due.together(SUM, false, MOST + " 1 -1", "ERROR");
        Due.together(SUM, false, MOST + " -1 1", MOST);
        Due.together(SUM, false, "1 " + MOST + " -1", "ERROR");
        Due.together(SUM, false, "-1 " + MOST + " 1", MOST);
        Due.together(SUM, false, "-" + MOST + " -1 1", "ERROR");
        Due.together(SUM, false, "100000000000000000 0.1 -1", "ERROR");
        Due.together(SUM, false, "100000000000000000 -1 0.1", "99999999999999999.1");
        Due.together(SUM, false, "0.000000001 999999999", "999999999.000000001");
        Due.together(SUM, false, "0.000000001 1000000000", "ERROR");
    }

    /** "AVERAGE (their sum divided by how many, always a decimal; 0 of none, a whole)". */
    private static void averages() {
        Due.together(AVERAGE, false, "", "0");
        Due.together(AVERAGE, true, "", "0");
        Due.together(AVERAGE, false, "0", "0.0");
        Due.together(AVERAGE, false, "5", "5.0");
        Due.together(AVERAGE, false, "1 2", "1.5");
        Due.together(AVERAGE, false, "1 1 2 2", "1.5");
        Due.together(AVERAGE, true, "1 2 2", "1.5");
        Due.together(AVERAGE, false, "1 2 2", "1.666666667");
        Due.together(AVERAGE, false, "1 1 2", "1.333333333");
        Due.together(AVERAGE, false, "-1 -2 -2", "-1.666666667");
        Due.together(AVERAGE, false, "0.000000001 0", "0.000000001");
        Due.together(AVERAGE, false, "-0.000000001 0", "-0.000000001");
        Due.together(AVERAGE, false, "0.000000001 0 0", "0.0");
        dueErrorWithOthers(AVERAGE);
        Due.together(AVERAGE, false, MOST, MOST + ".0");
        Due.together(AVERAGE, false, MOST + " 1", "ERROR");
        Due.together(AVERAGE, false, MOST + " 1 -1", "ERROR");
        Due.together(AVERAGE, false, MOST + " -1 1", "333333333333333333.0");
        Due.together(AVERAGE, false, "199999999999999999 0", "99999999999999999.5");
        Due.together(AVERAGE, false, "200000000000000001 0", "ERROR");
    }

    /** "LEAST, GREATEST, SAMPLE (as LEAST): by the order, of those that are no ERROR (ERROR of none)". */
    private static void leastAndGreatest() {
        String[] pairs = {"?9999 :0", ":9999 -1", "3 3.0", "3.0 3.000000001", "-3 -3.0", MOST + ".0 ''", "'a' 'aa'",
            "'b' 'a'@0", "'a'@0 'a'@1", "'b'@99 'a'^0", "'z'^99 false", "false true", "?0 true"};
        for (String pair : pairs) {
            String[] both = pair.split(" ");
            String turned = both[1] + " " + both[0];
            for (String way : new String[] {pair, turned, "ERROR " + pair, turned + " ERROR", pair + " " + turned}) {
                Due.together(LEAST, false, way, both[0]);
                Due.together(SAMPLE, false, way, both[0]);
                Due.together(GREATEST, false, way, both[1]);
                Due.together(LEAST, true, way, both[0]);
                Due.together(SAMPLE, true, way, both[0]);
                Due.together(GREATEST, true, way, both[1]);
            }
        }
        for (int sort : new int[] {LEAST, GREATEST, SAMPLE}) {
            Due.together(sort, false, "", "ERROR");
            Due.together(sort, true, "", "ERROR");
            Due.together(sort, false, "ERROR", "ERROR");
            Due.together(sort, false, "ERROR ERROR", "ERROR");
            Due.together(sort, false, "?5", "?5");
            Due.together(sort, false, "ERROR ?5 ERROR", "?5");
        }
    }

    /** "JOINED: a text of their STRINGS, by the order, each but the first behind the text between". */
    private static void joins() {
        Due.joined("','", false, "", "''");
        Due.joined("','", true, "", "''");
        Due.joined("','", false, "'a'", "'a'");
        Due.joined("','", false, "''", "''");
        Due.joined("','", false, "'' ''", "','");
        Due.joined("','", true, "'' ''", "''");
        Due.joined("','", false, "'b' 'a'", "'a,b'");
        Due.joined("''", false, "'b' 'a'", "'ab'");
        Due.joined("',_'", false, "'b' 'c' 'a'", "'a,_b,_c'");
        Due.joined("','", false, "true false '7'^0 '8'@0 '9' 3.0 3 2.5 :8 :7", "'7,8,2.5,3,3.0,9,8,7,false,true'");
        Due.joined("','", false, "'a'@1 'a'@0 'a' 'a'^3", "'a,a,a,a'");
        Due.joined("','", false, "3.0 3 3 3.0", "'3,3,3.0,3.0'");
        Due.joined("','", true, "3.0 3 3 3.0", "'3,3.0'");
        Due.joined("','", true, "'b' 'a' 'b' 'a'", "'a,b'");
        Due.joined("','", false, "','@5", "','");
    }

    /** "ERROR if one is, or has no STRING, or it has more than 64 bytes". */
    private static void joinsThatAreErrors() {
        Due.joined("','", false, "ERROR", "ERROR");
        Due.joined("','", false, "'a' ERROR", "ERROR");
        Due.joined("','", true, "ERROR 'a'", "ERROR");
        Due.joined("','", false, "?0", "ERROR");
        Due.joined("','", false, "'a' ?9999", "ERROR");
        Due.joined("','", false, ":0", "'0'");
        String x64 = "x".repeat(64);
        Due.joined("','", false, "'" + x64 + "'", "'" + x64 + "'");
        Due.joined("''", false, "'" + x64 + "' ''", "'" + x64 + "'");
        Due.joined("','", false, "'" + x64 + "' ''", "ERROR");
        Due.joined("','", false, "'" + x64.substring(1) + "' ''", "'," + x64.substring(1) + "'");
        Due.joined("''", false, "'" + x64 + "' 'y'", "ERROR");
        Due.joined("''", false, "'" + x64.substring(1) + "' 'y'", "'" + x64.substring(1) + "y'");
        Due.joined("''", false, "'y' '" + x64 + "'", "ERROR");
        Due.joined("'" + x64 + "'", false, "'y'", "'y'");
        Due.joined("'" + x64 + "'", false, "'' ''", "'" + x64 + "'");
        Due.joined("'" + x64 + "'", false, "'' 'y'", "ERROR");
        Due.joined("'" + x64 + "'", false, "'' '' ''", "ERROR");
        Due.joined("','", false, times("''", 65), "'" + ",".repeat(64) + "'");
        Due.joined("','", false, times("''", 66), "ERROR");
        Due.joined("','", false, times("'x'", 32) + " ''", "'" + ",x".repeat(32) + "'");
        Due.joined("','", false, times("'x'", 33), "ERROR");
        Due.joined("''", false, times("'x'", 64), "'" + x64 + "'");
        Due.joined("''", false, times("'x'", 65), "ERROR");
    }

    private static void dueRoom(int sort, String written, boolean isNew, String want) {
        Desk d = Desk.withRoom(isNew ? 1 : 0);
        d.gatherAll(sort, false, 2, written);
        Due.is("sort " + sort + " of " + written + " with room", d.show(d.together()), want);
        Due.is("sort " + sort + " of " + written + " fills it", d.values(), 2000);
        Due.is("sort " + sort + " of " + written + " is there", d.show(d.together()), want);
        if (isNew) {
            d = Desk.withRoom(0);
            d.gatherAll(sort, false, 2, written);
            Due.is("sort " + sort + " of " + written + " without room", d.together(), FULL);
            Due.is("sort " + sort + " of " + written + " without room again", d.together(), FULL);
            Due.is("what was gathered stays", d.add(1), written.isEmpty() ? 1 : written.split(" ").length + 1);
        }
    }

    /** Promise 20: "a value, made if it is not there; ERROR; FULL"; only what they are together is made. */
    private static void roomForWhatTheyAre() {
        dueRoom(COUNT, "", true, "0");
        dueRoom(COUNT, "1", false, "1");
        dueRoom(COUNT, "1 1", true, "2");
        dueRoom(SUM, "", true, "0");
        dueRoom(SUM, "1", false, "1");
        dueRoom(SUM, "1 1", true, "2");
        dueRoom(SUM, "1 1 1", true, "3");
        dueRoom(SUM, "1 1000 1 1", false, "1003");
        dueRoom(SUM, "1 ERROR", false, "ERROR");
        dueRoom(AVERAGE, "", true, "0");
        dueRoom(AVERAGE, "1", true, "1.0");
        dueRoom(AVERAGE, "1 1 1", true, "1.0");
        dueRoom(AVERAGE, "1 ','", false, "ERROR");
        dueRoom(JOINED, "", true, "''");
        dueRoom(JOINED, "','", false, "','");
        dueRoom(JOINED, "1 1", true, "'1,1'");
        dueRoom(JOINED, "1 ERROR", false, "ERROR");
        for (int sort : new int[] {LEAST, GREATEST, SAMPLE}) {
            dueRoom(sort, "1", false, "1");
            dueRoom(sort, "", false, "ERROR");
        }
        Desk d = new Desk();
        d.gatherAll(AVERAGE, false, 0, "10 20");
        Due.is("the third value", d.together(), 3);
        Due.is("their sum is not made", d.values(), 3);
        d.gatherAll(SUM, false, 0, "10 20 10");
        Due.is("the fourth value", d.together(), 4);
        Due.is("sums on the way are not made", d.values(), 4);
        d.gatherAll(SUM, false, 0, "ERROR");
        Due.is("an ERROR is no value", d.together(), ERROR);
        Due.is("no value is made", d.values(), 4);
    }

    public static void main(String[] args) {
        thereAreSorts0To6();
        whatStandsBetween();
        whatWasGatheredStays();
        nothingStaysOfBefore();
        whatCanBeAdded();
        eachOnlyOnce();
        thereAreAtMost500();
        all500Together();
        counts();
        sums();
        averages();
        leastAndGreatest();
        joins();
        joinsThatAreErrors();
        roomForWhatTheyAre();
        Due.end("GatheringBoundaryTests");
    }
}
