/** Each promise of the document: ordinary calls, the edges it names, and wrong arguments. Answers are worked out by hand. */
public final class PromiseTest {
    private static final int BEYOND = -1000000001;
    private static final int FULL = -1000000002;
    private static final int KIND = -1000000003;
    private static final int NONE = -1000000004;
    private static final int STATE = -1000000005;
    private static final int MISSING = -1000000006;
    private static final int SIZE = -1000000007;

    private static final int MAN = 0;
    private static final int AUNT = 1;
    private static final int CHILD = 2;
    private static final int POOR = 3;
    private static final int GIRL = 4;
    private static final int CLERK = 5;

    private static final int NEWS = 0;
    private static final int BROWN = 1;
    private static final int TISSUE = 2;
    private static final int MARBLED = 3;

    private static final int MIN = Integer.MIN_VALUE;
    private static final int MAX = Integer.MAX_VALUE;

    private static int wrong = 0;
    private static int asked = 0;

    public static void main(String[] args) {
        newObject();
        people();
        whatKindsDo();
        joyTurnAs();
        presents();
        wrapUnwrapSet();
        daysGo();
        lastDay();
        daysOfEachKind();
        bareThingsAreFound();
        joyIsCapped();
        nowTells();
        onAndJoyOn();
        foundAndComes();
        best();
        give();
        kind();
        least();
        order();
        happiest();
        enough();
        tape();
        townStands();
        townFaults();
        townFull();
        sheets();
        writes();
        copies();
        lays();
        books();
        reads();
        images();
        counts();
        statuses();
        System.out.println(asked + " answers, " + wrong + " not as due");
        if (wrong != 0) {
            System.exit(1);
        }
    }

    private static void due(String what, long got, long want) {
        asked++;
        if (got != want) {
            wrong++;
            System.out.println(what + " answered " + got + ", due is " + want);
        }
    }

    private static WrapGifts folk(int... kinds) {
        WrapGifts x = new WrapGifts();
        for (int kind : kinds) {
            x.person(kind);
        }
        return x;
    }

    /** Papers from the innermost on, as they are laid. */
    private static int gift(WrapGifts x, int person, int thing, int... papers) {
        int g = x.present(person, thing);
        for (int paper : papers) {
            x.wrap(g, paper);
        }
        return g;
    }

    private static int feed(WrapGifts x, String text) {
        int has = 0;
        for (int i = 0; i < text.length(); i++) {
            has = x.feed(text.charAt(i), 1);
        }
        return has;
    }

    private static int town(WrapGifts x, String text) {
        feed(x, text);
        return x.town();
    }

    /** The outermost first, each 1 more than the paper, as a number. */
    private static int papers(WrapGifts x, int present) {
        int number = 0;
        for (int i = 0; i < x.presentOf(present, 0); i++) {
            number = number * 10 + x.paper(present, i) + 1;
        }
        return number;
    }

    private static void newObject() {
        WrapGifts x = new WrapGifts();
        for (int what = 0; what <= 3; what++) {
            due("1 count " + what, x.count(what), 0);
        }
        for (int what = 0; what <= 4; what++) {
            due("1 now " + what, x.now(what), 0);
        }
        due("1 status", x.status(-1), 0);
        due("1 nobody", x.of(0, 0), BEYOND);
        due("1 no present", x.presentOf(0, 0), BEYOND);
        due("1 no sheet", x.write(3, 0, 0), MISSING);
        due("1 no image", x.undo(), NONE);
        due("1 nothing to tear", x.tear(), 0);
        due("1 empty tape", x.wipe(), 0);
        due("1 days go with nobody", x.days(60), 0);
        due("1 day", x.now(0), 60);
    }

    private static void people() {
        WrapGifts x = new WrapGifts();
        for (int kind = 0; kind < 6; kind++) {
            due("2 person", x.person(5 - kind), kind);
            due("3 kind", x.of(kind, 0), 5 - kind);
            due("3 joy at first", x.of(kind, 1), 0);
        }
        due("2 full", x.person(0), FULL);
        due("2 kind above", x.person(6), BEYOND);
        due("2 kind below", x.person(-1), BEYOND);
        due("2 kind far", x.person(MIN), BEYOND);
        due("2 none more", x.count(0), 6);
        gift(x, 2, 1);
        gift(x, 1, 1);
        gift(x, 2, 1);
        due("3 set", x.of(2, 2), 5);
        due("3 open set", x.of(2, 3), 5);
        x.days(1);
        due("3 set after a day", x.of(2, 2), 5);
        due("3 open set after a day", x.of(2, 3), 4);
        due("3 empty set", x.of(0, 2), 0);
        due("3 person above", x.of(6, 0), BEYOND);
        due("3 person below", x.of(-1, 0), BEYOND);
        due("3 what above", x.of(0, 4), BEYOND);
        due("3 what below", x.of(0, -1), BEYOND);
    }

    private static void whatKindsDo() {
        WrapGifts x = folk(MAN, AUNT, CHILD, POOR, GIRL, CLERK);
        int[] enjoysNews = {1, 2, 0, 6, 0, 1};
        int[] enjoysBrown = {2, 4, 1, 2, 0, 3};
        int[] enjoysTissue = {3, 6, 2, 3, 0, 5};
        int[] enjoysMarbled = {4, 8, 3, 4, 0, 7};
        int[][] enjoys = {enjoysNews, enjoysBrown, enjoysTissue, enjoysMarbled};
        int[] struckByAir = {0, 5, 0, 0, 10, 5};
        int[] struckByOne = {1, 0, 2, 1, 12, 0};
        int[] struckBySeven = {7, 0, 14, 7, 24, 3};
        int[] struckByMost = {99, 0, 198, 99, 208, 49};
        int air = gift(x, 0, 0);
        int seven = gift(x, 0, 7);
        int most = gift(x, 0, 99);
        int one = gift(x, 0, 1);
        for (int p = 0; p < 6; p++) {
            due("4 opens none", x.does(p, 0, air), NONE);
            due("4 enjoys none", x.does(p, 1, air), NONE);
            due("4 struck by air " + p, x.does(p, 2, air), struckByAir[p]);
            due("4 struck by 1 " + p, x.does(p, 2, one), struckByOne[p]);
            due("4 struck by 7 " + p, x.does(p, 2, seven), struckBySeven[p]);
            due("4 struck by 99 " + p, x.does(p, 2, most), struckByMost[p]);
            due("4 passes none on " + p, x.does(p, 3, air), 0);
        }
        for (int paper = 0; paper < 4; paper++) {
            x.wrap(air, paper);
            for (int p = 0; p < 6; p++) {
                due("4 enjoys " + paper + " " + p, x.does(p, 1, air), enjoys[paper][p]);
            }
        }
        int[][] opens = {{1, 0, 1, 1, 1, 1}, {1, 0, 2, 1, 2, 1}, {1, 0, 2, 1, 3, 1}, {1, 0, 2, 0, 4, 1}, {1, 0, 2, 1, 5, 1},
            {1, 0, 2, 1, 6, 1}};
        int[][] passes = {{0, 0, 0, 1, 0, 0}, {0, 0, 0, 1, 0, 1}, {0, 0, 0, 1, 0, 1}, {1, 0, 0, 0, 0, 1}, {1, 0, 0, 0, 0, 1},
            {1, 1, 0, 0, 0, 1}};
        int[] laid = {NEWS, BROWN, TISSUE, MARBLED, NEWS, BROWN};
        for (int l = 1; l <= 6; l++) {
            x.wrap(seven, laid[l - 1]);
            for (int p = 0; p < 6; p++) {
                due("4 opens of " + l + " " + p, x.does(p, 0, seven), opens[l - 1][p]);
                due("4 passes of " + l + " " + p, x.does(p, 3, seven), passes[l - 1][p]);
            }
        }
        due("4 nothing changed", x.presentOf(seven, 0), 6);
        due("4 person", x.does(6, 0, 0), BEYOND);
        due("4 person below", x.does(-1, 0, 0), BEYOND);
        due("4 what", x.does(0, 4, 0), BEYOND);
        due("4 what below", x.does(0, -1, 0), BEYOND);
        due("4 present", x.does(0, 2, 4), BEYOND);
        due("4 present below", x.does(0, 2, -1), BEYOND);
        due("4 beyond before none", x.does(6, 0, most), BEYOND);
        whatDaysTell();
    }

    private static void whatDaysTell() {
        WrapGifts x = folk(AUNT, MAN, POOR, CLERK);
        int g = gift(x, 0, 0, NEWS, NEWS, NEWS, NEWS);
        int h = gift(x, 0, 0, BROWN);
        for (int d = 0; d < 20; d++) {
            due("4 a clerk's opening on day " + d, x.does(3, 0, g), d % 5 == 0 ? 1 : 0);
            due("4 a man's paper on day " + d, x.does(1, 3, g), d % 4 + 1);
            due("4 a clerk's paper on day " + d, x.does(3, 3, g), d % 4 + 1);
            due("4 a poor one's paper on day " + d, x.does(2, 3, h), 1);
            x.days(1);
        }
        WrapGifts alone = folk(MAN);
        gift(alone, 0, 0, NEWS, NEWS, NEWS, NEWS);
        due("4 passes on even if there is nobody", alone.does(0, 3, 0), 1);
    }

    private static void joyTurnAs() {
        WrapGifts x = folk(MAN, AUNT, CHILD, POOR, GIRL, CLERK);
        due("5 joy", x.joy(3, 9999), 0);
        due("5 joy again", x.joy(3, 0), 9999);
        due("5 joy was 0", x.joy(3, 17), 0);
        due("5 it stays", x.of(3, 1), 17);
        due("5 of nobody else", x.now(1), 17);
        due("5 below", x.joy(3, -1), BEYOND);
        due("5 above", x.joy(3, 10000), BEYOND);
        due("5 person", x.joy(6, 1), BEYOND);
        due("5 person below", x.joy(-1, 1), BEYOND);
        due("5 unchanged", x.of(3, 1), 17);
        boolean[][] under = {{true}, {true, true}, {true, false, true}, {true, false, false, true},
            {true, false, true, false, true}, {true, true, false, false, false, true}};
        for (int p = 0; p < 6; p++) {
            x.joy(p, 100 + p);
            for (int kind = 0; kind < 6; kind++) {
                boolean is = kind < under[p].length && under[p][kind];
                due("7 as " + p + " " + kind, x.as(p, kind), is ? 100 + p : KIND);
            }
        }
        due("7 kind above", x.as(0, 6), BEYOND);
        due("7 kind below", x.as(0, -1), BEYOND);
        due("7 person", x.as(6, 0), BEYOND);
        due("7 person below", x.as(MIN, 0), BEYOND);
        due("6 turn", x.turn(0, GIRL), MAN);
        due("6 turned", x.of(0, 0), GIRL);
        due("6 keeps joy", x.of(0, 1), 100);
        due("6 as what it is", x.as(0, CHILD), 100);
        due("6 turn into the same", x.turn(0, GIRL), GIRL);
        due("6 kind", x.turn(0, 6), BEYOND);
        due("6 kind below", x.turn(0, -1), BEYOND);
        due("6 person", x.turn(6, 0), BEYOND);
        due("6 person below", x.turn(-1, 0), BEYOND);
    }

    private static void presents() {
        WrapGifts x = new WrapGifts();
        due("8 nobody", x.present(0, 0), BEYOND);
        x.person(AUNT);
        x.person(MAN);
        due("8 thing above", x.present(0, 100), BEYOND);
        due("8 thing below", x.present(0, -1), BEYOND);
        due("8 person below", x.present(-1, 0), BEYOND);
        for (int g = 0; g < 8; g++) {
            due("8 present", x.present(g % 2, 92 + g), g);
            due("9 layers", x.presentOf(g, 0), 0);
            due("9 thing", x.presentOf(g, 1), 92 + g);
            due("9 with", x.presentOf(g, 2), g % 2);
            due("9 found", x.presentOf(g, 3), 0);
        }
        due("8 full", x.present(0, 0), FULL);
        due("8 beyond before full", x.present(2, 0), BEYOND);
        due("9 present", x.presentOf(8, 0), BEYOND);
        due("9 present below", x.presentOf(-1, 0), BEYOND);
        due("9 what", x.presentOf(0, 4), BEYOND);
        due("9 what below", x.presentOf(0, -1), BEYOND);
        x.wrap(1, TISSUE);
        x.wrap(1, BROWN);
        due("10 outermost", x.paper(1, 0), BROWN);
        due("10 innermost", x.paper(1, 1), TISSUE);
        due("10 too far", x.paper(1, 2), NONE);
        due("10 far", x.paper(1, MAX), NONE);
        due("10 none", x.paper(0, 0), NONE);
        due("10 below", x.paper(1, -1), BEYOND);
        due("10 far below", x.paper(1, MIN), BEYOND);
        due("10 present", x.paper(8, 0), BEYOND);
        due("10 present below", x.paper(-1, 0), BEYOND);
    }

    private static void wrapUnwrapSet() {
        WrapGifts x = folk(GIRL, AUNT);
        int g = gift(x, 1, 4);
        for (int l = 1; l <= 6; l++) {
            due("11 wrap", x.wrap(g, l % 4), l);
        }
        due("11 papers", papers(x, g), 321432);
        due("11 full", x.wrap(g, 0), FULL);
        due("11 paper above", x.wrap(g, 4), BEYOND);
        due("11 paper below", x.wrap(g, -1), BEYOND);
        due("11 present", x.wrap(1, 0), BEYOND);
        due("11 present below", x.wrap(-1, 0), BEYOND);
        int[] off = {2, 1, 0, 3, 2, 1};
        for (int l = 0; l < 6; l++) {
            due("12 unwrap", x.unwrap(g), off[l]);
        }
        due("12 none", x.unwrap(g), NONE);
        due("12 not found by that", x.presentOf(g, 3), 0);
        due("12 nobody's joy", x.now(1), 0);
        due("12 present", x.unwrap(1), BEYOND);
        due("12 present below", x.unwrap(-1), BEYOND);
        due("13 thing", x.set(g, 1, 99), 4);
        due("13 thing again", x.set(g, 1, 0), 99);
        due("13 with", x.set(g, 2, 0), 1);
        due("13 with again", x.presentOf(g, 2), 0);
        due("13 thing stays", x.presentOf(g, 1), 0);
        due("13 thing above", x.set(g, 1, 100), BEYOND);
        due("13 thing below", x.set(g, 1, -1), BEYOND);
        due("13 with above", x.set(g, 2, 2), BEYOND);
        due("13 with below", x.set(g, 2, -1), BEYOND);
        due("13 what 0", x.set(g, 0, 0), BEYOND);
        due("13 what 3", x.set(g, 3, 0), BEYOND);
        due("13 present", x.set(1, 1, 0), BEYOND);
        due("13 present below", x.set(-1, 1, 0), BEYOND);
        x.days(1);
        due("11 found", x.wrap(g, 0), STATE);
        due("11 beyond before found", x.wrap(g, 4), BEYOND);
        due("13 thing of one that is found", x.set(g, 1, 8), 0);
        due("13 it stays found", x.presentOf(g, 3), 1);
    }

    private static void daysGo() {
        WrapGifts x = folk(MAN, CHILD);
        int g = gift(x, 0, 9, TISSUE, BROWN);
        int h = gift(x, 1, 10, TISSUE, MARBLED, NEWS);
        due("14 n 0", x.days(0), BEYOND);
        due("14 n 61", x.days(61), BEYOND);
        due("14 n below", x.days(MIN), BEYOND);
        due("14 nothing changed", x.now(0), 0);
        due("14 a day", x.days(1), 3);
        due("14 brown is off", papers(x, g), 3);
        due("14 a man's joy", x.of(0, 1), 2);
        due("14 news and marbled are off", papers(x, h), 3);
        due("14 a child's joy", x.of(1, 1), 3);
        due("14 a day more", x.days(1), 0);
        due("14 a man's joy then", x.of(0, 1), 2 + 3 + 9);
        due("14 a child's joy then", x.of(1, 1), 3 + 2 + 20);
        due("14 day", x.now(0), 2);
        due("14 rest", x.days(60), 0);
        due("14 no joy comes twice", x.now(1), 39);
        WrapGifts y = folk(MAN, AUNT, AUNT);
        int first = gift(y, 0, 1, NEWS);
        int second = gift(y, 0, 1);
        due("14 the least one alone", y.days(1), 2);
        due("14 first is found", y.presentOf(first, 3), 1);
        due("14 then the next", y.days(1), 0);
        due("14 second is found", y.presentOf(second, 3), 1);
        passedOnOnce();
    }

    private static void passedOnOnce() {
        WrapGifts x = folk(MAN, MAN, MAN);
        int g = gift(x, 0, 0, NEWS, NEWS, NEWS, NEWS);
        int h = gift(x, 1, 3);
        due("14 passed on", x.days(1), 1);
        due("14 once a day", x.presentOf(g, 2), 1);
        due("14 the next one opens its own", x.presentOf(h, 3), 1);
        due("14 with a paper of day 0", papers(x, g), 11111);
        x.days(1);
        due("14 on and on", x.presentOf(g, 2), 2);
        due("14 with a paper of day 1", papers(x, g), 211111);
        x.days(1);
        due("14 behind the last comes 0", x.presentOf(g, 2), 0);
        due("14 no seventh layer", papers(x, g), 211111);
        WrapGifts alone = folk(MAN);
        gift(alone, 0, 0, NEWS, NEWS, NEWS, NEWS);
        alone.days(1);
        due("14 alone it is opened", alone.presentOf(0, 0), 3);
    }

    private static void lastDay() {
        WrapGifts x = folk(MAN, AUNT, CLERK);
        for (int k = 0; k < 166; k++) {
            x.days(60);
        }
        due("14 day 9960", x.now(0), 9960);
        due("14 beyond the last day", x.days(40), STATE);
        due("14 beyond before state", x.days(61), BEYOND);
        due("14 nothing changed", x.now(0), 9960);
        due("14 the last day", x.days(39), 0);
        due("14 day 9999", x.now(0), 9999);
        due("14 no day more", x.days(1), STATE);
        gift(x, 0, 50, NEWS);
        due("16 ON goes on all the same", x.on(0, 1, 3), 1);
        due("17 ON goes on all the same", x.joyOn(0, 60), 51);
        due("16 now stays", x.now(0), 9999);
    }

    private static void daysOfEachKind() {
        WrapGifts aunt = folk(AUNT, AUNT);
        gift(aunt, 0, 0, MARBLED);
        due("14 an aunt keeps", aunt.days(60), 1);
        due("14 as it is", papers(aunt, 0), 4);
        gift(aunt, 1, 0);
        aunt.days(1);
        due("14 but finds what has no paper", aunt.of(1, 1), 5);
        gift(aunt, 1, 0, NEWS, NEWS, NEWS, NEWS, NEWS, NEWS);
        aunt.days(1);
        due("14 and gives on six", aunt.presentOf(2, 2), 0);

        WrapGifts poor = folk(POOR, GIRL);
        gift(poor, 0, 2, BROWN);
        poor.days(1);
        due("14 the poor give on", poor.presentOf(0, 2), 1);
        due("14 in news", papers(poor, 0), 12);
        poor.days(1);
        due("14 the girl tears it", poor.of(1, 1), 14);
        WrapGifts poorAlone = folk(POOR);
        gift(poorAlone, 0, 2, NEWS, MARBLED);
        poorAlone.days(30);
        due("14 marbled stays on", papers(poorAlone, 0), 41);
        poorAlone.unwrap(0);
        poorAlone.days(1);
        due("14 news is read", poorAlone.of(0, 1), 8);

        WrapGifts clerk = folk(CLERK, AUNT);
        gift(clerk, 0, 9, TISSUE);
        clerk.days(1);
        due("14 a clerk opens on day 0", clerk.of(0, 1), 5 + 4);
        gift(clerk, 0, 0, TISSUE);
        due("14 not on days 1 to 4", clerk.days(4), 2);
        due("14 but on day 5", clerk.days(1), 0);
        due("14 and is glad of air", clerk.of(0, 1), 9 + 5 + 5);
        gift(clerk, 0, 0, NEWS, NEWS);
        clerk.days(1);
        due("14 two are given on", clerk.presentOf(2, 2), 1);
        due("14 in tissue on day 6", papers(clerk, 2), 311);
    }

    private static void bareThingsAreFound() {
        int[] joy = {8, 0, 16, 8, 26, 4};
        for (int kind = 0; kind < 6; kind++) {
            WrapGifts x = folk(kind);
            x.joy(0, 100);
            gift(x, 0, 8);
            due("14 a bare thing is found by " + kind, x.days(1), 0);
            due("14 it pleases " + kind, x.of(0, 1), 100 + joy[kind]);
            due("14 of no layers " + kind, x.now(3), 0);
        }
    }

    private static void joyIsCapped() {
        WrapGifts x = folk(MAN);
        x.joy(0, 9997);
        gift(x, 0, 99, NEWS, MARBLED);
        due("17 capped", x.joyOn(0, 1), 9999);
        x.days(1);
        due("14 capped", x.of(0, 1), 9999);
        x.days(1);
        due("14 stays capped", x.of(0, 1), 9999);
        due("14 found all the same", x.presentOf(0, 3), 1);
    }

    private static void nowTells() {
        WrapGifts x = folk(GIRL, AUNT, MAN);
        gift(x, 0, 11, NEWS, BROWN);
        gift(x, 1, 12, NEWS, BROWN, TISSUE);
        gift(x, 2, 13);
        gift(x, 1, 14, NEWS);
        x.days(1);
        due("15 day", x.now(0), 1);
        due("15 joy", x.now(1), 22 + 10 + 13);
        due("15 found", x.now(2), 5);
        due("15 layers", x.now(3), 4);
        due("15 things", x.now(4), 24);
        due("15 what", x.now(5), BEYOND);
        due("15 what below", x.now(-1), BEYOND);
        due("39 found", x.count(3), 2);
    }

    private static void onAndJoyOn() {
        WrapGifts x = folk(MAN, CLERK);
        int g = gift(x, 0, 20, NEWS, BROWN, TISSUE);
        for (int n = 0; n <= 3; n++) {
            due("16 layers on " + n, x.on(g, n, 0), 3 - n);
            due("16 with on " + n, x.on(g, n, 2), 0);
            due("16 found on " + n, x.on(g, n, 3), n == 3 ? 1 : 0);
        }
        int[] joy = {0, 3, 5, 26, 26};
        for (int n = 0; n < joy.length; n++) {
            due("17 joy on " + n, x.joyOn(0, n), joy[n]);
        }
        due("16 far", x.on(g, 60, 3), 1);
        due("17 far", x.joyOn(0, 60), 26);
        due("16 nothing changed", x.now(3), 3);
        due("16 no day went", x.now(0), 0);
        due("17 no joy came", x.now(1), 0);
        due("16 what 1", x.on(g, 0, 1), BEYOND);
        due("16 what 4", x.on(g, 0, 4), BEYOND);
        due("16 what below", x.on(g, 0, -1), BEYOND);
        due("16 n above", x.on(g, 61, 0), BEYOND);
        due("16 n below", x.on(g, -1, 0), BEYOND);
        due("16 present", x.on(1, 0, 0), BEYOND);
        due("16 present below", x.on(-1, 0, 0), BEYOND);
        due("17 n above", x.joyOn(0, 61), BEYOND);
        due("17 n below", x.joyOn(0, -1), BEYOND);
        due("17 person", x.joyOn(2, 0), BEYOND);
        due("17 person below", x.joyOn(-1, 0), BEYOND);
        x.set(g, 2, 1);
        due("16 a clerk gives it on", x.on(g, 1, 2), 0);
        due("16 with a layer more", x.on(g, 1, 0), 4);
    }

    private static void foundAndComes() {
        WrapGifts x = folk(MAN, MAN, AUNT, GIRL);
        int g = gift(x, 0, 1, NEWS, NEWS, NEWS);
        int h = gift(x, 0, 1, NEWS, NEWS, NEWS, NEWS);
        due("18 found in 3 days", x.found(g), 3);
        due("18 the girl tears it at last", x.found(h), 7);
        due("19 with it now", x.comes(h, 0), 0);
        due("19 its turn comes after the other", x.comes(h, 1), 4);
        due("19 next", x.comes(h, 2), 5);
        due("19 the girl", x.comes(h, 3), 6);
        due("19 never", x.comes(g, 1), NONE);
        x.set(h, 2, 3);
        due("18 in a day", x.found(h), 1);
        x.days(1);
        due("18 it is", x.found(h), 0);
        due("18 present", x.found(2), BEYOND);
        due("18 present below", x.found(-1), BEYOND);
        due("19 present", x.comes(2, 0), BEYOND);
        due("19 present below", x.comes(-1, 0), BEYOND);
        due("19 person", x.comes(0, 4), BEYOND);
        due("19 person below", x.comes(0, -1), BEYOND);
        due("18 nothing changed", x.now(0), 1);
        farthestDay();
    }

    private static void farthestDay() {
        WrapGifts y = folk(MAN);
        for (int g = 0; g < 8; g++) {
            gift(y, 0, 0, NEWS, NEWS, NEWS, NEWS, NEWS, NEWS);
        }
        due("18 in 48 days", y.found(7), 48);
        WrapGifts aunt = folk(AUNT);
        gift(aunt, 0, 0, NEWS);
        due("18 never", aunt.found(0), NONE);
        WrapGifts z = folk(CLERK);
        for (int g = 0; g < 3; g++) {
            gift(z, 0, 0, NEWS, NEWS, NEWS, NEWS);
        }
        // A layer on days 0, 5, .., 55: the twelfth is off in 56 days.
        due("18 a clerk in 56 days", z.found(2), 56);
        z.wrap(2, NEWS);
        due("18 a clerk in 61 days", z.found(2), NONE);
        z.days(1);
        due("18 a clerk in 60 days", z.found(2), 60);
        // Present 0 goes to and fro and leaves clerk 0 the even days, of which 10, 20, .., 60 open one each of the six.
        WrapGifts w = folk(CLERK, CLERK);
        w.days(2);
        gift(w, 1, 0, NEWS, NEWS, NEWS, NEWS, NEWS, NEWS);
        for (int g = 0; g < 6; g++) {
            gift(w, 0, 0, NEWS);
        }
        gift(w, 0, 0, NEWS, NEWS);
        due("19 in 61 days", w.comes(7, 1), NONE);
        w.days(1);
        due("19 in 60 days", w.comes(7, 1), 60);
    }

    private static void best() {
        WrapGifts man = folk(MAN);
        int g = gift(man, 0, 0);
        due("20 marbled for a man", man.best(g, 1), MARBLED);
        WrapGifts poor = folk(POOR);
        gift(poor, 0, 0);
        due("20 news for the poor", poor.best(0, 1), NEWS);
        WrapGifts aunt = folk(AUNT);
        gift(aunt, 0, 0);
        due("20 of several the least", aunt.best(0, 30), NEWS);
        due("20 n 0", aunt.best(0, 0), BEYOND);
        due("20 n 31", aunt.best(0, 31), BEYOND);
        due("20 present", aunt.best(1, 1), BEYOND);
        due("20 present below", aunt.best(-1, 1), BEYOND);
        due("20 nothing changed", aunt.presentOf(0, 0), 0);
        gift(aunt, 0, 0, NEWS, NEWS, NEWS, NEWS, NEWS, NEWS);
        due("20 full", aunt.best(1, 1), FULL);
        due("20 beyond before full", aunt.best(1, 31), BEYOND);
        aunt.days(1);
        due("20 found", aunt.best(0, 1), STATE);
        WrapGifts late = folk(MAN);
        gift(late, 0, 90, MARBLED);
        due("20 on 1 day the paper tells", late.best(0, 1), MARBLED);
        due("20 on 2 days too", late.best(0, 2), MARBLED);
    }

    private static void give() {
        WrapGifts x = folk(MAN, CHILD, GIRL, AUNT);
        int g = gift(x, 3, 7);
        due("21 to the girl", x.give(g, 1), 2);
        due("21 nothing changed", x.presentOf(g, 2), 3);
        WrapGifts air = folk(MAN, CHILD, AUNT, CLERK);
        gift(air, 0, 0);
        due("21 air to an aunt, the least of two", air.give(0, 1), 2);
        air.days(1);
        due("21 found: all alike", air.give(0, 30), 0);
        WrapGifts paper = folk(GIRL, MAN);
        gift(paper, 0, 0, MARBLED, MARBLED, MARBLED);
        due("21 on 1 day torn", paper.give(0, 1), 0);
        due("21 on 3 days taken off", paper.give(0, 3), 1);
        due("21 n 0", paper.give(0, 0), BEYOND);
        due("21 n 31", paper.give(0, 31), BEYOND);
        due("21 present", paper.give(1, 1), BEYOND);
        due("21 present below", paper.give(-1, 1), BEYOND);
    }

    private static void kind() {
        WrapGifts x = folk(MAN);
        int g = gift(x, 0, 7, MARBLED);
        due("22 a girl", x.kind(0, 1), GIRL);
        x.set(g, 1, 0);
        // Of air in marbled paper: 4, 0, 3, 0, 10 and 7 with 5 on day 0.
        due("22 a clerk", x.kind(0, 1), CLERK);
        x.unwrap(g);
        x.days(1);
        due("22 of several the least", x.kind(0, 30), MAN);
        due("22 nothing changed", x.of(0, 0), MAN);
        due("22 n 0", x.kind(0, 0), BEYOND);
        due("22 n 31", x.kind(0, 31), BEYOND);
        due("22 person", x.kind(1, 1), BEYOND);
        due("22 person below", x.kind(-1, 1), BEYOND);
        WrapGifts two = folk(MAN, AUNT);
        gift(two, 1, 99);
        due("22 its own joy, not that of all", two.kind(0, 5), MAN);
        due("22 the other's", two.kind(1, 5), GIRL);
    }

    private static void least() {
        WrapGifts x = folk(CHILD, AUNT);
        int g = gift(x, 0, 50, BROWN);
        due("23 half of 20 less 1", x.least(g, 0, 1, 20), 10);
        due("23 a bit more", x.least(g, 0, 1, 22), 11);
        due("23 the greatest", x.least(g, 0, 1, 199), 99);
        due("23 too much", x.least(g, 0, 1, 200), NONE);
        due("23 0", x.least(g, 0, 1, 0), 0);
        due("23 of another one", x.least(g, 1, 30, 1), NONE);
        due("23 0 of another one", x.least(g, 1, 30, 0), 0);
        due("23 v above", x.least(g, 0, 1, 10000), BEYOND);
        due("23 v below", x.least(g, 0, 1, -1), BEYOND);
        due("23 v most", x.least(g, 0, 1, 9999), NONE);
        due("23 n 0", x.least(g, 0, 0, 0), BEYOND);
        due("23 n 31", x.least(g, 0, 31, 0), BEYOND);
        due("23 n 30", x.least(g, 0, 30, 0), 0);
        due("23 present", x.least(1, 0, 1, 0), BEYOND);
        due("23 present below", x.least(-1, 0, 1, 0), BEYOND);
        due("23 person", x.least(g, 2, 1, 0), BEYOND);
        due("23 person below", x.least(g, -1, 1, 0), BEYOND);
        due("23 nothing changed", x.presentOf(g, 1), 50);
        x.set(g, 2, 1);
        x.unwrap(g);
        due("23 air for an aunt", x.least(g, 1, 1, 5), 0);
    }

    private static void order() {
        WrapGifts x = folk(MAN);
        int g = gift(x, 0, 0, NEWS, MARBLED, TISSUE);
        due("24 on 1 day marbled first", x.order(g, 1), 413);
        due("24 on 2 days marbled and tissue", x.order(g, 2), 341);
        due("24 on 3 days all alike", x.order(g, 3), 134);
        due("24 nothing changed", papers(x, g), 341);
        due("24 n 0", x.order(g, 0), BEYOND);
        due("24 n 11", x.order(g, 11), BEYOND);
        due("24 n 10", x.order(g, 10), 134);
        due("24 present", x.order(1, 1), BEYOND);
        due("24 present below", x.order(-1, 1), BEYOND);
        WrapGifts poor = folk(POOR);
        int h = gift(poor, 0, 0, MARBLED, NEWS, BROWN, BROWN, MARBLED);
        // Outermost marbled stops the poor; else news and then the browns are worth most within 3 days.
        due("24 the poor", poor.order(h, 3), 12244);
        due("24 the poor on 1 day", poor.order(h, 1), 12244);
        due("24 on 2 days", poor.order(h, 2), 12244);
        poor.wrap(h, NEWS);
        due("24 six", poor.order(h, 1), SIZE);
        due("24 beyond before size", poor.order(h, 11), BEYOND);
        gift(poor, 0, 0);
        due("24 none", poor.order(1, 1), NONE);
        due("24 beyond before none", poor.order(1, 0), BEYOND);
        WrapGifts one = folk(AUNT);
        gift(one, 0, 0, MARBLED);
        due("24 one layer", one.order(0, 5), 4);
        WrapGifts five = folk(MAN);
        gift(five, 0, 0, NEWS, NEWS, MARBLED, NEWS, TISSUE);
        due("24 five layers", five.order(0, 1), 41113);
    }

    private static void happiest() {
        WrapGifts x = new WrapGifts();
        due("25 nobody", x.happiest(0), NONE);
        due("25 beyond before none", x.happiest(61), BEYOND);
        x.person(MAN);
        x.person(MAN);
        x.person(CHILD);
        due("25 of several the least", x.happiest(60), 0);
        gift(x, 1, 5, NEWS, NEWS);
        gift(x, 2, 4, NEWS, NEWS, NEWS, NEWS, NEWS);
        due("25 now", x.happiest(0), 0);
        due("25 on 1 day", x.happiest(1), 1);
        due("25 on 2 days", x.happiest(2), 1);
        due("25 on 3 days", x.happiest(3), 2);
        due("25 on 60 days", x.happiest(60), 2);
        x.joy(0, 8);
        due("25 on 60 days, with one that has as much", x.happiest(60), 0);
        due("25 n below", x.happiest(-1), BEYOND);
        due("25 n above", x.happiest(61), BEYOND);
    }

    private static void enough() {
        WrapGifts x = folk(MAN);
        int g = gift(x, 0, 0, NEWS);
        due("26 one more than days", x.enough(g, BROWN, 1), 1);
        due("26 five", x.enough(g, BROWN, 5), 5);
        due("26 not with six", x.enough(g, BROWN, 6), NONE);
        due("26 nothing changed", x.presentOf(g, 0), 1);
        due("26 n 0", x.enough(g, 0, 0), BEYOND);
        due("26 n 31", x.enough(g, 0, 31), BEYOND);
        due("26 paper above", x.enough(g, 4, 1), BEYOND);
        due("26 paper below", x.enough(g, -1, 1), BEYOND);
        due("26 present", x.enough(1, 0, 1), BEYOND);
        due("26 present below", x.enough(-1, 0, 1), BEYOND);
        WrapGifts aunt = folk(AUNT);
        gift(aunt, 0, 0, NEWS);
        due("26 none is needed", aunt.enough(0, NEWS, 30), 0);
        aunt.unwrap(0);
        due("26 one is needed", aunt.enough(0, NEWS, 30), 1);
        aunt.days(1);
        due("26 found", aunt.enough(0, NEWS, 30), STATE);
        due("26 beyond before state", aunt.enough(0, 4, 30), BEYOND);
        WrapGifts poor = folk(POOR);
        gift(poor, 0, 0);
        due("26 a marbled one will do", poor.enough(0, MARBLED, 30), 1);
        due("26 news won't", poor.enough(0, NEWS, 30), NONE);
        WrapGifts girl = folk(GIRL);
        gift(girl, 0, 0, NEWS, NEWS, NEWS, NEWS, NEWS, NEWS);
        due("26 full and torn", girl.enough(0, NEWS, 1), NONE);
    }

    private static void tape() {
        WrapGifts x = new WrapGifts();
        due("27 n 0", x.feed(0, 0), BEYOND);
        due("27 n 5", x.feed(0, 5), BEYOND);
        due("27 n below", x.feed(0, -1), BEYOND);
        due("27 three of four", x.feed(('X' << 24) | ('m' << 16) | ('a' << 8) | 'n', 3), 3);
        due("39 bytes", x.count(2), 3);
        due("29 the highest first", x.town(), 1);
        due("29 a man", x.of(0, 0), MAN);
        due("28 empty then", x.wipe(), 0);
        for (int k = 1; k <= 29; k++) {
            due("27 four", x.feed(-1, 4), 4 * k);
        }
        due("27 two", x.feed(-1, 2), 118);
        due("27 not three", x.feed(0, 3), FULL);
        due("27 beyond before full", x.feed(0, 5), BEYOND);
        due("27 nothing came", x.count(2), 118);
        due("27 just two", x.feed(0, 2), 120);
        due("27 no more", x.feed(0, 1), FULL);
        due("28 wipe", x.wipe(), 120);
        due("28 wipe again", x.wipe(), 0);
        due("27 from the begin", x.feed(0, 1), 1);
    }

    private static void townStands() {
        WrapGifts x = new WrapGifts();
        due("29 all kinds", town(x, "man;aunt; child ;poor  ; girl;clerk "), 6);
        for (int kind = 0; kind < 6; kind++) {
            due("29 kind", x.of(kind, 0), kind);
        }
        due("29 a present", town(x, "present 5 thing 99 news brown tissue marbled news brown"), 1);
        due("29 its papers", papers(x, 0), 123412);
        due("29 its thing", x.presentOf(0, 1), 99);
        due("29 with", x.presentOf(0, 2), 5);
        due("29 not found", x.presentOf(0, 3), 0);
        due("29 without a thing", town(x, " present 1 marbled"), 1);
        due("29 air", x.presentOf(1, 1), 0);
        due("29 marbled", papers(x, 1), 4);
        due("29 bare, without blanks", town(x, "present2;present3thing4brown;present 004 thing 0"), 3);
        due("29 bare", x.presentOf(2, 0), 0);
        due("29 thing 4", x.presentOf(3, 1), 4);
        due("29 in brown", papers(x, 3), 2);
        due("29 zeros in front", x.presentOf(4, 2), 4);
        due("29 empty then", x.count(2), 0);
        due("29 how many", x.count(1), 5);
        due("29 no finding", x.status(-1), 0);
        WrapGifts y = folk(GIRL);
        y.joy(0, 3);
        y.days(2);
        due("29 one there by then", town(y, "man;present 1;present 0;aunt"), 4);
        due("29 what was stays", y.of(0, 1), 3);
        due("29 and the day", y.now(0), 2);
        due("29 they come behind", y.of(2, 0), AUNT);
        due("29 the present too", y.presentOf(0, 2), 1);
    }

    private static void townFaults() {
        Object[][] faults = {
            {"", 0}, {"   ", 3}, {";", 0}, {"man;", 4}, {"man; ", 5}, {"man;;", 4}, {"man aunt", 4}, {"manaunt", 0},
            {"mans", 0}, {"manz", 0}, {"mana", 0}, {"aman", 0}, {"nan", 0}, {"mam", 0}, {"presenta 0", 0},
            {"Man", 0}, {"mAn", 0}, {"man!", 3}, {" 7", 1}, {"news", 0}, {"thing 3", 0}, {"man 3", 4},
            {"present", 7}, {"present ", 8}, {"present;", 7}, {"present man", 8}, {"present 1", 8}, {"present 1000", 8},
            {"present 4294967296", 8}, {"present 0 thing", 15}, {"present 0 thing ", 16}, {"present 0 thing 100", 16},
            {"present 0 thing news", 16}, {"present 0 thing 1 thing 2", 18}, {"present 0 news thing 1", 15},
            {"present 0 0", 10}, {"present 0 present 0", 10}, {"present 0 news;news", 15}, {"present 0 paper", 10},
            {"present 0 newsbrown", 10}, {"present 0 news\tbrown", 14}, {"present 0 news,", 14},
            {"present 0 news news news news news news news", 40},
            {"present 0 news news news news news news thing", 40},
            {"present 1;man", 8}, {"man;present 2", 12}, {"man;present 1;presen", 14}, {"man\n", 3}, {"man;" + (char) 0, 4},
            {"man;" + (char) 255, 4}, {"man;{", 4}, {"man;`", 4}, {"present 0/", 9}, {"present 0:", 9}, {"aunt;man;x", 9},
            {"present 0 thing 99999999999999999999", 16}, {"present -1", 8}};
        for (Object[] fault : faults) {
            String text = (String) fault[0];
            WrapGifts x = folk(GIRL);
            due("29 fault of '" + text + "'", town(x, text), -1 - (Integer) fault[1]);
            due("29 the tape is empty after '" + text + "'", x.count(2), 0);
            due("29 nobody came of '" + text + "'", x.count(0), 1);
            due("29 no present came of '" + text + "'", x.count(1), 0);
            due("29 no finding of '" + text + "'", x.status(-1), 0);
        }
    }

    private static void townFull() {
        WrapGifts x = folk(MAN, MAN, MAN, MAN, MAN);
        due("29 a seventh one", town(x, "man; girl"), -1 - 5);
        due("29 five still", x.count(0), 5);
        due("29 a sixth one", town(x, "man"), 1);
        due("29 no other", town(x, "present 0;clerk"), -1 - 10);
        due("29 no present", x.count(1), 0);
        for (int g = 0; g < 7; g++) {
            gift(x, 0, 1);
        }
        due("29 a ninth present", town(x, "present 0; present 9"), -1 - 11);
        due("29 an eighth present", town(x, "present 0"), 1);
        due("29 no other present", town(x, "present"), -1);
        due("29 eight", x.count(1), 8);
        WrapGifts y = new WrapGifts();
        due("29 nobody to be with", town(y, "present 0"), -1 - 8);
        town(y, "manman;present 00000          ;");
        due("29 what was on the tape isn't read again", town(y, "man"), 1);
        town(y, "present 09999          ;");
        due("29 nor a digit", town(y, "present 0"), 1);
        town(y, "                        ");
        due("29 nor a blank", town(y, "man;"), -1 - 4);
    }

    private static void sheets() {
        WrapGifts x = new WrapGifts();
        due("30 8", x.sheet(0, 8, 40), 40);
        due("30 16", x.sheet(1, 16, 0), 0);
        due("30 64", x.sheet(3, 64, 7), 7);
        due("30 sheet above", x.sheet(4, 8, 1), BEYOND);
        due("30 sheet below", x.sheet(-1, 8, 1), BEYOND);
        due("30 32 bits", x.sheet(0, 32, 1), BEYOND);
        due("30 bits below", x.sheet(0, -8, 1), BEYOND);
        due("30 n below", x.sheet(0, 8, -1), SIZE);
        due("30 n far below", x.sheet(0, 8, MIN), SIZE);
        due("30 n above", x.sheet(0, 8, 41), BEYOND);
        due("30 beyond before size", x.sheet(0, 7, -1), BEYOND);
        due("30 no such one before size", x.sheet(4, 8, -1), BEYOND);
        due("30 bits 0, n below", x.sheet(0, 0, -1), SIZE);
        due("30 bits 0, n above", x.sheet(0, 0, 41), BEYOND);
        due("30 still there", x.write(0, 39, 5), 0);
        due("30 bits 0", x.sheet(0, 0, 3), 0);
        due("30 missing", x.write(0, 0, 5), MISSING);
        due("30 empty, not missing", x.write(1, 0, 5), BEYOND);
        x.write(3, 2, 9);
        x.sheet(3, 64, 7);
        due("30 all 0 again", x.write(3, 2, 9), 0);
        x.sheet(3, 8, 7);
        for (int i = 0; i < 7; i++) {
            x.write(3, i, 9);
        }
        x.sheet(3, 8, 2);
        x.sheet(3, 8, 7);
        for (int i = 0; i < 7; i++) {
            due("30 all are 0", x.write(3, i, 9), 0);
        }
    }

    private static void writes() {
        WrapGifts x = new WrapGifts();
        x.sheet(0, 8, 3);
        x.sheet(1, 16, 3);
        x.sheet(2, 64, 3);
        for (int s = 0; s < 3; s++) {
            due("31 was 0", x.write(s, 2, 0x123456789ABCDE77L), 0);
        }
        due("31 lowest 8", x.write(0, 2, 127), 0x77);
        due("31 lowest 16", x.write(1, 2, 32767), (short) 0xDE77);
        due("31 lowest 64", x.write(2, 2, Long.MIN_VALUE), 0x123456789ABCDE77L);
        due("31 127", x.write(0, 2, 128), 127);
        due("31 128 of 8 bits", x.write(0, 2, -1), -128);
        due("31 -1 of 8 bits", x.write(0, 2, 256), -1);
        due("31 256 of 8 bits", x.write(0, 2, 0), 0);
        due("31 32767", x.write(1, 2, -1), 32767);
        due("31 -1 of 16 bits", x.write(1, 2, 65536), -1);
        due("31 65536 of 16 bits", x.write(1, 2, 0), 0);
        due("31 the least long", x.write(2, 2, 0), Long.MIN_VALUE);
        due("31 others stay", x.write(0, 1, 0), 0);
        due("31 i above", x.write(0, 3, 0), BEYOND);
        due("31 i below", x.write(0, -1, 0), BEYOND);
        due("31 i far", x.write(0, MAX, 0), BEYOND);
        due("31 sheet above", x.write(4, 0, 0), BEYOND);
        due("31 sheet below", x.write(-1, 0, 0), BEYOND);
        due("31 missing", x.write(3, 0, 0), MISSING);
        due("31 missing before number", x.write(3, -1, 0), MISSING);
    }

    private static void fill(WrapGifts x, int s, int n) {
        for (int i = 0; i < n; i++) {
            x.write(s, i, i + 1);
        }
    }

    private static void copies() {
        WrapGifts x = new WrapGifts();
        x.sheet(0, 16, 5);
        x.sheet(1, 16, 4);
        x.sheet(2, 8, 5);
        fill(x, 0, 5);
        due("32 copy", x.copy(0, 1, 1, 0, 4), 4);
        for (int i = 0; i < 4; i++) {
            due("32 copied", x.write(1, i, 0), i + 2);
        }
        due("32 upon itself, upwards", x.copy(0, 0, 0, 1, 4), 4);
        int[] up = {1, 1, 2, 3, 4};
        for (int i = 0; i < 5; i++) {
            due("32 as they all were", x.write(0, i, i + 1), up[i]);
        }
        due("32 upon itself, downwards", x.copy(0, 1, 0, 0, 4), 4);
        int[] down = {2, 3, 4, 5, 5};
        for (int i = 0; i < 5; i++) {
            due("32 as they all were", x.write(0, i, i + 1), down[i]);
        }
        due("32 none", x.copy(0, 5, 1, 4, 0), 0);
        due("32 none from beyond", x.copy(0, 6, 1, 0, 0), BEYOND);
        due("32 none to beyond", x.copy(0, 0, 1, 5, 0), BEYOND);
        due("32 from has not so many", x.copy(0, 2, 1, 0, 4), BEYOND);
        due("32 to has not so many", x.copy(0, 0, 1, 1, 4), BEYOND);
        due("32 from below", x.copy(0, -1, 1, 0, 1), BEYOND);
        due("32 to below", x.copy(0, 0, 1, -1, 1), BEYOND);
        due("32 n below", x.copy(0, 0, 1, 0, -1), BEYOND);
        due("32 far", x.copy(0, MAX, 1, MAX, MAX), BEYOND);
        due("32 far from", x.copy(0, MAX, 1, 0, 1), BEYOND);
        due("32 far to", x.copy(0, 0, 1, MAX, 1), BEYOND);
        due("32 far below", x.copy(0, MIN, 1, MIN, MIN), BEYOND);
        due("32 bits", x.copy(0, 0, 2, 0, 1), KIND);
        due("32 bits before numbers", x.copy(0, -1, 2, 0, 1), KIND);
        due("32 missing", x.copy(3, 0, 0, 0, 0), MISSING);
        due("32 missing too", x.copy(0, 0, 3, 0, 0), MISSING);
        due("32 both missing", x.copy(3, 0, 3, 0, 0), MISSING);
        due("32 no such sheet", x.copy(3, 0, 4, 0, 0), BEYOND);
        due("32 no such sheet either", x.copy(-1, 0, 3, 0, 0), BEYOND);
        due("32 unchanged", x.write(1, 0, 0), 0);
    }

    private static void lays() {
        WrapGifts x = folk(AUNT);
        int g = gift(x, 0, 0, NEWS, NEWS);
        x.sheet(0, 8, 8);
        int[] numbers = {3, 2, 1, 0, 3, 2, 1, 0};
        for (int i = 0; i < 8; i++) {
            x.write(0, i, numbers[i]);
        }
        due("33 six at most", x.lays(0, g), 6);
        due("33 the outermost first", papers(x, g), 432143);
        x.write(0, 2, 4);
        due("33 up to 4", x.lays(0, g), 2);
        due("33 two", papers(x, g), 43);
        x.write(0, 1, -1);
        due("33 up to -1", x.lays(0, g), 1);
        due("33 one", papers(x, g), 4);
        x.write(0, 0, 100);
        due("33 none", x.lays(0, g), 0);
        due("33 none is left", x.presentOf(g, 0), 0);
        x.sheet(1, 64, 2);
        x.write(1, 1, 1L << 32);
        due("33 a great number isn't a paper", x.lays(1, g), 1);
        x.sheet(1, 16, 3);
        due("33 a short sheet", x.lays(1, g), 3);
        due("33 no sheet", x.lays(4, g), BEYOND);
        due("33 sheet below", x.lays(-1, g), BEYOND);
        due("33 missing", x.lays(2, g), MISSING);
        due("33 missing before present", x.lays(2, 1), MISSING);
        due("33 present", x.lays(0, 1), BEYOND);
        due("33 present below", x.lays(0, -1), BEYOND);
        due("33 unchanged", papers(x, g), 111);
        x.lays(0, g);
        x.days(1);
        due("33 found", x.lays(1, g), STATE);
    }

    private static void books() {
        WrapGifts x = folk(MAN, AUNT);
        x.joy(0, 1);
        gift(x, 0, 99, NEWS, BROWN, MARBLED);
        x.sheet(0, 16, 5);
        x.sheet(1, 8, 5);
        x.sheet(3, 64, 40);
        due("34 book", x.book(0, 0), 5);
        due("34 book of 8 bits", x.book(1, 0), 5);
        due("34 book of 64 bits", x.book(3, 0), 40);
        int[] joy = {1, 5, 7, 107, 107};
        for (int i = 0; i < 5; i++) {
            due("34 joy on " + i, x.write(0, i, 9), joy[i]);
            due("34 joy of 8 bits on " + i, x.write(1, i, 9), joy[i]);
        }
        due("34 joy on 39", x.write(3, 39, 0), 107);
        due("34 of another one", x.book(0, 1), 5);
        due("34 none", x.write(0, 4, 0), 0);
        x.joy(0, 300);
        x.book(1, 0);
        due("34 lowest bits", x.write(1, 0, 0), 44);
        due("34 nothing changed", x.now(3), 3);
        due("34 no day went", x.now(0), 0);
        x.sheet(0, 8, 0);
        due("34 empty", x.book(0, 0), 0);
        due("34 no sheet", x.book(4, 0), BEYOND);
        due("34 sheet below", x.book(-1, 0), BEYOND);
        due("34 missing", x.book(2, 0), MISSING);
        due("34 missing before person", x.book(2, 2), MISSING);
        due("34 person", x.book(0, 2), BEYOND);
        due("34 person below", x.book(0, -1), BEYOND);
    }

    private static void reads() {
        WrapGifts x = folk(CHILD, AUNT);
        int g = gift(x, 0, 9, BROWN);
        x.sheet(0, 16, 3);
        x.book(0, 0);
        // 0, 19, 19: a child with 9; a man or poor one with 2 and 17 on day 1 differ, a girl tears: 10 and 2 t is never 19.
        // A man: 2 and 17 is 19 on day 1, too; the poor give it on; a clerk on day 0: 3, and half of 32 or 33.
        due("35 pairs", x.read(0, 0, g), 4);
        due("35 nothing changed", x.of(0, 0), CHILD);
        due("35 the thing stays", x.presentOf(g, 1), 9);
        due("35 no day went", x.now(0), 0);
        x.write(0, 2, 20);
        due("35 none", x.read(0, 0, g), 0);
        x.set(g, 2, 1);
        int h = gift(x, 0, 50, NEWS, BROWN, MARBLED);
        x.sheet(2, 16, 5);
        x.turn(0, MAN);
        x.book(2, 0);
        // 0, 4, 6, 57, 57: only a man takes off one a day; marbled paper stops the poor one, who gives it on besides.
        due("35 a man with 50", x.read(2, 0, h), 1);
        x.turn(0, CHILD);
        x.book(2, 0);
        // 0, 4, 104, 104, 104.
        due("35 a child with 50", x.read(2, 0, h), 1);
        x.write(2, 1, 5);
        due("35 not quite", x.read(2, 0, h), 0);
        x.sheet(2, 0, 0);
        x.set(h, 2, 1);
        x.set(g, 2, 0);
        x.write(0, 0, 1);
        due("35 not even on 0", x.read(0, 0, g), 0);
        x.sheet(1, 64, 0);
        due("35 all of an empty sheet", x.read(1, 0, g), 600);
        x.sheet(1, 64, 1);
        due("35 all with joy 0 on 0", x.read(1, 0, g), 600);
        x.sheet(1, 64, 40);
        // An aunt keeps it; the poor give it on to the aunt, who keeps it.
        due("35 never pleased", x.read(1, 0, g), 200);
        x.write(1, 0, 1L << 32);
        due("35 the whole number counts", x.read(1, 0, g), 0);
        due("35 no sheet", x.read(4, 0, g), BEYOND);
        due("35 sheet below", x.read(-1, 0, g), BEYOND);
        due("35 missing", x.read(2, 0, g), MISSING);
        due("35 missing before person", x.read(2, 2, g), MISSING);
        due("35 person", x.read(0, 2, g), BEYOND);
        due("35 person below", x.read(0, -1, g), BEYOND);
        due("35 present", x.read(0, 0, 2), BEYOND);
        due("35 present below", x.read(0, 0, -1), BEYOND);
        x.joy(0, 300);
        x.sheet(3, 8, 2);
        x.book(3, 0);
        due("35 what lost bits is no joy", x.read(3, 0, g), 0);
    }

    private static void images() {
        WrapGifts x = folk(MAN, AUNT);
        int g = gift(x, 0, 9, BROWN, TISSUE);
        x.joy(1, 50);
        x.days(1);
        x.sheet(0, 8, 1);
        feed(x, "man");
        due("36 image", x.image(), 1);
        x.days(3);
        x.person(GIRL);
        gift(x, 2, 4);
        x.joy(1, 60);
        x.turn(0, CLERK);
        x.set(g, 1, 3);
        x.set(g, 2, 1);
        x.write(0, 0, 77);
        feed(x, "!");
        x.of(9, 9);
        due("37 undo", x.undo(), 2);
        due("37 people", x.count(0), 2);
        due("37 presents", x.count(1), 1);
        due("37 day", x.now(0), 1);
        due("37 joy", x.of(0, 1), 3);
        due("37 joy of the other", x.of(1, 1), 50);
        due("37 kind", x.of(0, 0), MAN);
        due("37 papers", papers(x, g), 2);
        due("37 thing", x.presentOf(g, 1), 9);
        due("37 with", x.presentOf(g, 2), 0);
        due("37 found", x.presentOf(g, 3), 0);
        due("37 the tape stays", x.count(2), 4);
        due("37 sheets stay", x.write(0, 0, 0), 77);
        due("37 findings stay", x.status(-1), 1);
        x.days(5);
        x.joy(1, 51);
        due("37 undo again", x.undo(), 2);
        due("37 the same day", x.now(0), 1);
        due("37 the same joy", x.of(1, 1), 50);
        x.days(1);
        x.image();
        x.days(1);
        x.undo();
        due("37 the latest", x.now(0), 2);
        due("38 tear", x.tear(), 1);
        due("38 tear again", x.tear(), 0);
        due("38 nothing to undo", x.undo(), NONE);
        due("38 all stays", x.now(0), 2);
        WrapGifts empty = new WrapGifts();
        empty.image();
        empty.person(MAN);
        due("37 nobody", empty.undo(), 0);
        due("37 nobody is there", empty.count(0), 0);
        due("2 a new one has no joy of the old", empty.person(MAN), 0);
    }

    private static void counts() {
        WrapGifts x = folk(GIRL, MAN, AUNT);
        gift(x, 0, 0);
        gift(x, 2, 0, NEWS);
        feed(x, "abcde");
        due("39 people", x.count(0), 3);
        due("39 presents", x.count(1), 2);
        due("39 bytes", x.count(2), 5);
        due("39 none found", x.count(3), 0);
        x.days(1);
        due("39 one found", x.count(3), 1);
        due("39 what", x.count(4), BEYOND);
        due("39 what below", x.count(-1), BEYOND);
    }

    private static void statuses() {
        WrapGifts x = folk(MAN, MAN, MAN, MAN, MAN, AUNT);
        x.person(0);
        x.person(0);
        x.as(0, AUNT);
        x.as(0, CLERK);
        x.as(0, GIRL);
        x.undo();
        gift(x, 0, 0);
        x.days(1);
        x.wrap(0, 0);
        x.write(0, 0, 0L);
        x.write(1, 0, 0L);
        x.sheet(0, 8, -1);
        x.days(0);
        due("40 beyond", x.status(0), 1);
        due("40 full", x.status(1), 2);
        due("40 kind", x.status(2), 3);
        due("40 none", x.status(3), 1);
        due("40 state", x.status(4), 1);
        due("40 missing", x.status(5), 2);
        due("40 size", x.status(6), 1);
        due("40 all", x.status(-1), 11);
        due("40 another one", x.status(7), BEYOND);
        due("40 another one below", x.status(-2), BEYOND);
        due("40 far below", x.status(MIN), BEYOND);
        due("40 counted from then on", x.status(0), 4);
        due("40 in all", x.status(-1), 14);
        town(x, "!");
        due("40 a fault is no finding", x.status(-1), 14);
    }
}
