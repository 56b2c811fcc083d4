import java.util.ArrayList;
import java.util.List;
import java.util.function.Supplier;

/**
 * Each sentence of the document that names a boundary case, quoted, with a test of its own. A refused call is held against
 * a twin that was not asked: all that can be seen of the two must be alike, but for the one finding more.
 */
public final class BoundaryTest {
    private static final int BEYOND = -1000000001;
    private static final int FULL = -1000000002;
    private static final int KIND = -1000000003;
    private static final int NONE = -1000000004;
    private static final int STATE = -1000000005;
    private static final int MISSING = -1000000006;
    private static final int SIZE = -1000000007;

    private static final int MAN = 0;
    private static final int AUNT = 1;
    private static final int CHILD = 2;
    private static final int POOR = 3;
    private static final int GIRL = 4;
    private static final int CLERK = 5;

    private static final int NEWS = 0;
    private static final int BROWN = 1;
    private static final int TISSUE = 2;
    private static final int MARBLED = 3;

    private static final int MIN = Integer.MIN_VALUE;
    private static final int MAX = Integer.MAX_VALUE;

    /** Of a row with four numbers, say, or the six people: what lies just outside, and far outside. */
    private static int[] outside(int least, int most) {
        return new int[] {least - 1, most + 1, MIN, MAX, least - 256, most + 256};
    }

    private interface Call {
        long on(WrapGifts x);
    }

    private static String sentence = "";
    private static int answers = 0;
    private static int sentences = 0;
    private static int wrong = 0;

    public static void main(String[] args) {
        numbersAndFindings();
        papersAndDay();
        limitsOfPresents();
        limitsOfPeople();
        opens();
        enjoys();
        isStruck();
        passesOn();
        aDayGoes();
        aDayPassesOn();
        theText();
        faults();
        onAndSheets();
        people();
        does();
        joyTurnAs();
        presents();
        wrapUnwrapSet();
        days();
        onJoyOn();
        foundComes();
        best();
        give();
        kind();
        least();
        order();
        happiest();
        enough();
        tape();
        town();
        sheet();
        write();
        copy();
        lays();
        book();
        read();
        images();
        countStatus();
        says("");
        System.out.println(sentences + " sentences, " + answers + " answers, " + wrong + " not as due");
        if (wrong != 0) {
            System.exit(1);
        }
    }

    // ---- how a sentence is tested

    private static int answersAtBegin = -1;

    private static void says(String words) {
        if (answersAtBegin == answers) {
            wrong++;
            System.out.println("no test: " + sentence);
        }
        answersAtBegin = answers;
        sentences += words.isEmpty() ? 0 : 1;
        sentence = words;
    }

    private static void due(String what, long got, long want) {
        answers++;
        if (got != want) {
            wrong++;
            System.out.println("\"" + sentence + "\" " + what + ": answered " + got + ", due is " + want);
        }
    }

    private static void refused(int finding, Supplier<WrapGifts> made, Call call) {
        WrapGifts x = made.get();
        WrapGifts twin = made.get();
        due("the finding", call.on(x), finding);
        for (int which = -1; which <= 6; which++) {
            int more = which == -1 || which == BEYOND - finding ? 1 : 0;
            due("status(" + which + ")", x.status(which) - twin.status(which), more);
        }
        List<Long> seen = seenOf(x);
        answers++;
        if (!seen.equals(seenOf(twin))) {
            wrong++;
            System.out.println("\"" + sentence + "\": a refused call changed something");
        }
    }

    /** All that can be seen of one, which is spoiled by it: the sheets are read by writing, the tape by reading it. */
    private static List<Long> seenOf(WrapGifts x) {
        List<Long> seen = new ArrayList<>();
        seeTown(x, seen);
        for (int s = 0; s < 4; s++) {
            long was = 0;
            for (int i = 0; i < 40 && was != BEYOND && was != MISSING; i++) {
                was = x.write(s, i, -1L);
                seen.add(was);
                // What is left of -1 tells of how many bits it is.
                seen.add(was == BEYOND || was == MISSING ? 0 : x.write(s, i, Long.MAX_VALUE));
                seen.add(was == BEYOND || was == MISSING ? 0 : x.write(s, i, 1L << 15));
                seen.add(was == BEYOND || was == MISSING ? 0 : x.write(s, i, 0L));
            }
        }
        seen.add((long) x.count(2));
        seen.add((long) x.town());
        seeTown(x, seen);
        seen.add((long) x.undo());
        seeTown(x, seen);
        return seen;
    }

    private static void seeTown(WrapGifts x, List<Long> seen) {
        for (int what = 0; what <= 4; what++) {
            seen.add((long) x.now(what));
        }
        seen.add((long) x.count(0));
        seen.add((long) x.count(1));
        for (int p = 0; p < x.count(0); p++) {
            seen.add((long) x.of(p, 0));
            seen.add((long) x.of(p, 1));
        }
        for (int g = 0; g < x.count(1); g++) {
            for (int what = 1; what <= 3; what++) {
                seen.add((long) x.presentOf(g, what));
            }
            seen.add((long) papers(x, g));
        }
    }

    // ---- towns

    private static WrapGifts folk(int... kinds) {
        WrapGifts x = new WrapGifts();
        for (int kind : kinds) {
            x.person(kind);
        }
        return x;
    }

    /** Papers from the innermost on, as they are laid. */
    private static int gift(WrapGifts x, int person, int thing, int... papers) {
        int g = x.present(person, thing);
        for (int paper : papers) {
            x.wrap(g, paper);
        }
        return g;
    }

    private static int[] layers(int n, int paper) {
        int[] row = new int[n];
        java.util.Arrays.fill(row, paper);
        return row;
    }

    /** One person alone with one present. */
    private static WrapGifts alone(int kind, int thing, int... papers) {
        WrapGifts x = folk(kind);
        gift(x, 0, thing, papers);
        return x;
    }

    private static void feed(WrapGifts x, String text) {
        for (int i = 0; i < text.length(); i++) {
            x.feed(text.charAt(i), 1);
        }
    }

    private static int town(WrapGifts x, String text) {
        feed(x, text);
        return x.town();
    }

    /** The outermost first, each 1 more than the paper, as a number. */
    private static int papers(WrapGifts x, int present) {
        int number = 0;
        int n = x.presentOf(present, 0);
        for (int i = 0; i < n; i++) {
            number = number * 10 + x.paper(present, i) + 1;
        }
        return number;
    }

    /** Three people (man, aunt, child), three presents (found; of two layers; of one), day 1, all else in use too. */
    private static WrapGifts busy() {
        WrapGifts x = folk(MAN, AUNT, CHILD);
        gift(x, 2, 50);
        x.days(1);
        gift(x, 0, 9, BROWN, MARBLED);
        gift(x, 1, 0, TISSUE);
        x.image();
        x.joy(0, 7);
        x.set(1, 1, 10);
        x.sheet(0, 8, 3);
        x.write(0, 0, 1);
        x.write(0, 1, 2);
        x.write(0, 2, 3);
        x.sheet(1, 16, 2);
        x.write(1, 0, -1);
        x.write(1, 1, 300);
        x.sheet(2, 64, 0);
        feed(x, "aunt");
        x.of(9, 9);
        return x;
    }

    private static WrapGifts fullOfPeople() {
        return folk(MAN, AUNT, CHILD, POOR, GIRL, CLERK);
    }

    private static WrapGifts fullOfPresents() {
        WrapGifts x = folk(AUNT, MAN);
        for (int g = 0; g < 8; g++) {
            gift(x, g % 2, 10 + g, NEWS);
        }
        return x;
    }

    /** An aunt with one present of six layers and one found, a third of five. */
    private static WrapGifts wrappedFull() {
        WrapGifts x = folk(AUNT);
        gift(x, 0, 3);
        x.days(1);
        gift(x, 0, 1, layers(6, BROWN));
        gift(x, 0, 2, layers(5, TISSUE));
        return x;
    }

    private static WrapGifts onDay(int day, int... kinds) {
        WrapGifts x = folk(kinds);
        for (int gone = 0; gone < day; gone += 60) {
            x.days(Math.min(60, day - gone));
        }
        return x;
    }

    /** On day 1 a clerk alone with five of one layer each (opened on days 5, 10, .., 25): a sixth is opened on day 30. */
    private static WrapGifts clerkOnDay1(int... others) {
        WrapGifts x = folk(others);
        int clerk = x.person(CLERK);
        x.days(1);
        for (int g = 0; g < 5; g++) {
            gift(x, clerk, 1, NEWS);
        }
        return x;
    }

    /**
     * Two clerks. Present 0 goes to and fro and leaves the first one the even days, so that it opens one of the seven others
     * on each of the days 0, 10, .., 60 alone: present 7 is found in 61 days.
     */
    private static WrapGifts slow() {
        WrapGifts x = folk(CLERK, CLERK);
        gift(x, 1, 0, layers(6, NEWS));
        for (int g = 1; g <= 6; g++) {
            gift(x, 0, 1, NEWS);
        }
        gift(x, 0, 99, NEWS);
        return x;
    }

    private static WrapGifts slowOnDay1() {
        WrapGifts x = slow();
        x.days(1);
        return x;
    }

    // ---- terms

    private static void numbersAndFindings() {
        says("FINDINGS are answers below -1000000000: -1000000001 BEYOND, -1000000002 FULL, -1000000003 KIND, -1000000004 NONE, "
            + "-1000000005 STATE, -1000000006 MISSING, -1000000007 SIZE (in longs, too).");
        due("BEYOND", new WrapGifts().now(5), -1000000001);
        due("FULL", fullOfPeople().person(0), -1000000002);
        due("KIND", folk(MAN).as(0, AUNT), -1000000003);
        due("NONE", new WrapGifts().undo(), -1000000004);
        due("STATE", busy().wrap(0, 0), -1000000005);
        due("MISSING", new WrapGifts().lays(0, 0), -1000000006);
        due("SIZE", new WrapGifts().sheet(0, 8, -1), -1000000007);
        due("BEYOND, in longs", new WrapGifts().write(4, 0, 0L), -1000000001L);
        due("MISSING, in longs", new WrapGifts().write(0, 0, 0L), -1000000006L);
        // A number that looks like a finding is none.
        WrapGifts x = new WrapGifts();
        x.sheet(0, 64, 1);
        x.write(0, 0, -1000000001L);
        due("a number", x.write(0, 0, 0L), -1000000001L);
        due("is no finding", x.status(-1), 0);

        says("Quotients are cut.");
        int[] things = {1, 2, 3, 98, 99};
        int[] halves = {0, 1, 1, 49, 49};
        for (int k = 0; k < things.length; k++) {
            due("half of " + things[k], alone(CLERK, things[k]).does(0, 2, 0), halves[k]);
        }

        says("Sets are told by bits.");
        WrapGifts all = fullOfPresents();
        due("of the first", all.of(0, 2), 0b01010101);
        due("of the second", all.of(1, 2), 0b10101010);
        due("none", all.now(2), 0);
        due("all eight", alone8(GIRL).days(8), 0);
        WrapGifts girl = alone8(GIRL);
        due("all but the first", girl.days(1), 0b11111110);
        girl.days(7);
        due("all found", girl.now(2), 255);
    }

    private static WrapGifts alone8(int kind) {
        WrapGifts x = folk(kind);
        for (int g = 0; g < 8; g++) {
            gift(x, 0, 0, NEWS);
        }
        return x;
    }

    private static void papersAndDay() {
        says("PAPERS: 0 NEWS, 1 BROWN, 2 TISSUE, 3 MARBLED.");
        WrapGifts x = alone(AUNT, 0);
        due("news", town(x, "present 0 news brown tissue marbled"), 1);
        for (int paper = 0; paper < 4; paper++) {
            due("paper", x.paper(1, paper), paper);
            due("the least to the greatest", x.wrap(0, paper), paper + 1);
        }
        refused(BEYOND, BoundaryTest::busy, y -> y.wrap(1, -1));
        refused(BEYOND, BoundaryTest::busy, y -> y.wrap(1, 4));

        says("DAY: 0 at first (9999 at most).");
        due("at first", new WrapGifts().now(0), 0);
        WrapGifts last = onDay(9998);
        due("the last but one", last.now(0), 9998);
        due("a day more", last.days(1), 0);
        due("at most", last.now(0), 9999);
        due("no day more", last.days(1), STATE);
        due("it stays", last.now(0), 9999);
    }

    private static void limitsOfPresents() {
        says("PRESENTS 0, 1, .. (at most 8)");
        WrapGifts x = folk(AUNT);
        for (int g = 0; g < 8; g++) {
            due("present", x.present(0, g), g);
        }
        due("a ninth", x.present(0, 0), FULL);
        due("how many", x.count(1), 8);

        says("LAYERS (0 to 6 PAPERS, told from the outermost one on; none at first)");
        WrapGifts y = alone(AUNT, 0);
        due("none at first", y.presentOf(0, 0), 0);
        for (int l = 1; l <= 6; l++) {
            due("layers", y.wrap(0, l % 4), l);
        }
        due("a seventh", y.wrap(0, 0), FULL);
        due("from the outermost one on", papers(y, 0), 321432);

        says("a THING in it (0 to 99; 0 is air)");
        due("air", alone(AUNT, 0).presentOf(0, 1), 0);
        due("99", alone(AUNT, 99).presentOf(0, 1), 99);
        refused(BEYOND, BoundaryTest::busy, z -> z.present(0, -1));
        refused(BEYOND, BoundaryTest::busy, z -> z.present(0, 100));

        says("FOUND (1) or not (0; at first, LAYERS or none)");
        WrapGifts z = alone(GIRL, 3);
        due("not at first, with none", z.presentOf(0, 3), 0);
        gift(z, 0, 3, NEWS);
        due("not at first, with one", z.presentOf(1, 3), 0);
        z.days(1);
        due("found", z.presentOf(0, 3), 1);
        due("not yet", z.presentOf(1, 3), 0);
    }

    private static void limitsOfPeople() {
        says("PEOPLE 0, 1, .. (at most 6)");
        WrapGifts x = new WrapGifts();
        for (int p = 0; p < 6; p++) {
            due("person", x.person(p), p);
        }
        due("a seventh", x.person(0), FULL);
        due("how many", x.count(0), 6);

        says("0 MAN, 1 AUNT under MAN, 2 CHILD under MAN, 3 POOR under MAN, 4 GIRL under CHILD, 5 CLERK under AUNT");
        int[] under = {0b000001, 0b000011, 0b000101, 0b001001, 0b010101, 0b100011};
        for (int p = 0; p < 6; p++) {
            for (int kind = 0; kind < 6; kind++) {
                due(p + " as " + kind, x.as(p, kind), (under[p] >> kind & 1) == 1 ? 0 : KIND);
            }
        }

        says("each with JOY (0 to 9999; 0 at first)");
        due("0 at first", x.of(5, 1), 0);
        WrapGifts again = new WrapGifts();
        again.image();
        again.person(GIRL);
        again.joy(0, 77);
        again.undo();
        again.person(AUNT);
        due("0 at first, of a number that was another's", again.of(0, 1), 0);
        town(again, "man");
        due("0 at first, told in a text", again.of(1, 1), 0);
        due("9999", x.joy(5, 9999), 0);
        due("it is", x.of(5, 1), 9999);
        due("0 again", x.joy(5, 0), 9999);
        refused(BEYOND, BoundaryTest::busy, y -> y.joy(0, -1));
        refused(BEYOND, BoundaryTest::busy, y -> y.joy(0, 10000));
    }

    private static int opensOf(int kind, int... papers) {
        return alone(kind, 5, papers).does(0, 0, 0);
    }

    private static void opens() {
        says("MAN: 1.");
        due("of one", opensOf(MAN, NEWS), 1);
        due("of six", opensOf(MAN, layers(6, MARBLED)), 1);
        says("AUNT: 0.");
        due("of one", opensOf(AUNT, NEWS), 0);
        due("of six", opensOf(AUNT, layers(6, NEWS)), 0);
        says("CHILD: twice as MAN.");
        due("of two", opensOf(CHILD, NEWS, NEWS), 2);
        due("of six", opensOf(CHILD, layers(6, NEWS)), 2);
        says("(No more than l.)");
        due("a child of one", opensOf(CHILD, NEWS), 1);
        WrapGifts child = alone(CHILD, 5, TISSUE);
        due("it goes so", child.days(1), 0);
        due("with one joy", child.of(0, 1), 2 + 10);
        says("POOR: as MAN, but 0, if p is MARBLED.");
        due("marbled outermost", opensOf(POOR, NEWS, NEWS, NEWS, NEWS, MARBLED), 0);
        due("marbled within", opensOf(POOR, MARBLED, MARBLED, MARBLED, TISSUE), 1);
        due("news", opensOf(POOR, NEWS), 1);
        says("GIRL: l.");
        for (int l = 1; l <= 6; l++) {
            due("of " + l, opensOf(GIRL, layers(l, MARBLED)), l);
        }
        says("CLERK: as AUNT, but 1 on days whose rest by 5 is 0.");
        WrapGifts clerk = folk(CLERK, AUNT);
        gift(clerk, 1, 0, NEWS, NEWS);
        for (int day = 0; day <= 11; day++) {
            due("on day " + day, clerk.does(0, 0, 0), day == 0 || day == 5 || day == 10 ? 1 : 0);
            clerk.days(1);
        }
    }

    private static void enjoys() {
        String[] words = {"MAN: p and 1.", "AUNT: twice as MAN.", "CHILD: as MAN, less 1.", "POOR: as MAN, but 6 for NEWS.",
            "GIRL: 0.", "CLERK: as AUNT, less 1."};
        int[][] joys = {{1, 2, 3, 4}, {2, 4, 6, 8}, {0, 1, 2, 3}, {6, 2, 3, 4}, {0, 0, 0, 0}, {1, 3, 5, 7}};
        for (int kind = 0; kind < 6; kind++) {
            says("ENJOYS: " + words[kind]);
            for (int paper = 0; paper < 4; paper++) {
                due("of " + paper, alone(kind, 5, NEWS, paper).does(0, 1, 0), joys[kind][paper]);
            }
        }
    }

    private static void isStruck() {
        String[] words = {"MAN: t.", "AUNT: 0, if t is above 0, else 5.", "CHILD: twice as MAN, but 0 for air.", "POOR: as MAN.",
            "GIRL: as CHILD, and 10.", "CLERK: as AUNT, and half of t."};
        int[] things = {0, 1, 2, 99};
        int[][] joys = {{0, 1, 2, 99}, {5, 0, 0, 0}, {0, 2, 4, 198}, {0, 1, 2, 99}, {10, 12, 14, 208}, {5, 0, 1, 49}};
        for (int kind = 0; kind < 6; kind++) {
            says("IS STRUCK: " + words[kind]);
            for (int k = 0; k < 4; k++) {
                WrapGifts x = alone(kind, things[k]);
                due("by " + things[k], x.does(0, 2, 0), joys[kind][k]);
                x.days(1);
                due("found " + things[k], x.of(0, 1), joys[kind][k]);
            }
        }
    }

    private static void passesOn() {
        String[] words = {"MAN: if l is 4 or more: r.", "AUNT: as MAN, but only if l is 6.", "CHILD: no.",
            "POOR: NEWS, if l is 1 to 3.", "GIRL: as CHILD.", "CLERK: as MAN, from 2 on."};
        // On day 2: 3 tells TISSUE; by how many layers there are, 0 to 6.
        int[][] told = {{0, 0, 0, 0, 3, 3, 3}, {0, 0, 0, 0, 0, 0, 3}, {0, 0, 0, 0, 0, 0, 0}, {0, 1, 1, 1, 0, 0, 0},
            {0, 0, 0, 0, 0, 0, 0}, {0, 0, 3, 3, 3, 3, 3}};
        for (int kind = 0; kind < 6; kind++) {
            says("PASSES ON: " + words[kind]);
            for (int l = 0; l <= 6; l++) {
                WrapGifts x = onDay(2, kind, AUNT);
                gift(x, 0, 5, layers(l, BROWN));
                due("of " + l, x.does(0, 3, 0), told[kind][l]);
                x.days(1);
                due("with whom of " + l, x.presentOf(0, 2), told[kind][l] == 0 ? 0 : 1);
            }
        }

        says("the rest of DAY by 4");
        int[] days = {0, 1, 2, 3, 4, 7, 8, 9996, 9999};
        for (int day : days) {
            WrapGifts x = onDay(day, MAN, AUNT);
            gift(x, 0, 5, layers(4, BROWN));
            due("on day " + day, x.does(0, 3, 0), 1 + day % 4);
        }
        WrapGifts poor = onDay(3, POOR);
        gift(poor, 0, 5, TISSUE);
        due("not so for the poor", poor.does(0, 3, 0), 1 + NEWS);
    }

    private static void aDayGoes() {
        says("PEOPLE by numbers, each with the least PRESENT that is WITH it");
        WrapGifts x = folk(MAN, MAN);
        gift(x, 1, 1, NEWS);
        gift(x, 0, 1, NEWS);
        gift(x, 0, 1, NEWS);
        gift(x, 1, 1, NEWS);
        due("the least of each", x.days(1), 0b1100);
        due("the others", x.days(1), 0);
        WrapGifts none = folk(MAN, AUNT);
        gift(none, 1, 0, NEWS);
        due("one without a present", none.days(1), 1);
        due("does nothing", none.now(1), 0);

        says("isn't FOUND");
        WrapGifts girl = folk(GIRL);
        gift(girl, 0, 1);
        girl.days(1);
        gift(girl, 0, 2);
        due("the next one", girl.days(1), 0);
        due("is found, not the first again", girl.of(0, 1), 12 + 14);
        due("and no joy comes after", girl.joyOn(0, 60), 26);

        says("else it takes off as many LAYERS as it OPENS, from the outermost one on, and JOY is what it ENJOYS of each more");
        WrapGifts child = alone(CHILD, 7, NEWS, BROWN, TISSUE, MARBLED);
        child.days(1);
        due("two are off", papers(child, 0), 21);
        due("their joy", child.of(0, 1), 3 + 2);
        WrapGifts aunt = alone(AUNT, 7, MARBLED);
        due("none is off", aunt.days(60), 1);
        due("no joy", aunt.of(0, 1), 0);
        WrapGifts poor = alone(POOR, 7, MARBLED, TISSUE);
        poor.days(1);
        due("marbled comes to be the outermost", papers(poor, 0), 4);
        due("and stays", poor.days(9), 1);

        says("if it has no LAYERS then, it is FOUND, and JOY is as much more as it IS STRUCK");
        WrapGifts man = alone(MAN, 7, NEWS, BROWN);
        due("one is left", man.days(1), 1);
        due("not found", man.presentOf(0, 3), 0);
        due("none is left", man.days(1), 0);
        due("found", man.presentOf(0, 3), 1);
        due("joy", man.of(0, 1), 2 + 1 + 7);
        due("it had none before", alone(AUNT, 0).days(1), 0);
        WrapGifts bare = onDay(1, CLERK);
        gift(bare, 0, 8);
        due("one who opens none finds it, too", bare.days(1), 0);
        due("with joy", bare.of(0, 1), 4);

        says("(9999 at most each time)");
        WrapGifts glad = alone(MAN, 99, NEWS, MARBLED);
        glad.joy(0, 9995);
        glad.days(1);
        due("just 9999", glad.of(0, 1), 9999);
        due("found", glad.days(1), 0);
        due("no more", glad.of(0, 1), 9999);
        WrapGifts near = alone(GIRL, 99, NEWS);
        near.joy(0, 9999 - 209);
        due("one below", near.joyOn(0, 1), 9998);
        near.joy(0, 9999 - 208);
        due("just so", near.joyOn(0, 1), 9999);
        near.joy(0, 9999 - 207);
        due("one above", near.joyOn(0, 1), 9999);

        says("DAY is 1 more.");
        due("with nobody", onDay(1).now(0), 1);
        due("with all found", man.now(0), 2);
    }

    private static void aDayPassesOn() {
        says("was not PASSED ON in this DAY");
        WrapGifts x = folk(MAN, GIRL, MAN);
        gift(x, 0, 5, layers(4, NEWS));
        due("the girl tears it", x.days(1), 1);
        due("not in this day", x.presentOf(0, 0), 5);
        due("it is with her", x.presentOf(0, 2), 1);
        due("but in the next", x.days(1), 0);
        WrapGifts own = folk(MAN, GIRL);
        gift(own, 0, 5, layers(4, NEWS));
        gift(own, 1, 6, NEWS);
        due("she tears her own", own.days(1), 0b01);
        due("one joy", own.of(1, 1), 22);

        says("and there are other PEOPLE");
        WrapGifts alone = alone(MAN, 5, layers(4, NEWS));
        due("alone", alone.days(1), 1);
        due("it is opened", alone.presentOf(0, 0), 3);
        due("with joy", alone.of(0, 1), 1);
        WrapGifts poor = alone(POOR, 5, NEWS);
        due("the poor alone find it", poor.days(1), 0);
        due("with joy", poor.of(0, 1), 6 + 5);
        WrapGifts aunt = alone(AUNT, 5, layers(6, NEWS));
        aunt.days(1);
        due("an aunt alone keeps six", aunt.presentOf(0, 0), 6);
        WrapGifts clerk = alone(CLERK, 5, NEWS, NEWS);
        clerk.days(1);
        due("a clerk alone opens on day 0", clerk.presentOf(0, 0), 1);

        says("a LAYER of that PAPER comes about it as the outermost (if it has fewer than 6; else none)");
        WrapGifts five = folk(MAN, AUNT);
        five.days(3);
        gift(five, 0, 5, layers(5, NEWS));
        five.days(1);
        due("of five", papers(five, 0), 411111);
        WrapGifts six = folk(MAN, CHILD);
        six.days(3);
        gift(six, 0, 5, layers(6, NEWS));
        six.days(1);
        due("of six", papers(six, 0), 111111);
        due("it is passed on all the same", six.presentOf(0, 2), 1);
        due("nobody has joy of it", six.now(1), 0);

        says("it is WITH the next one (behind the last comes 0)");
        WrapGifts round = folk(CLERK, CLERK, CLERK, CLERK, CLERK, CLERK);
        gift(round, 3, 5, layers(6, NEWS));
        int[] with = {4, 5, 0, 1, 2, 3};
        for (int day = 0; day < 6; day++) {
            round.days(1);
            due("on day " + day, round.presentOf(0, 2), with[day]);
        }
        WrapGifts two = folk(GIRL, MAN);
        gift(two, 1, 5, layers(4, NEWS));
        two.days(1);
        due("to 0, who has gone in this day", two.presentOf(0, 3), 0);
        due("it is with 0", two.presentOf(0, 2), 0);
    }

    // ---- the text

    private static void holds(String text, int items) {
        WrapGifts x = folk(GIRL);
        due("'" + text + "'", town(x, text), items);
        due("the tape after '" + text + "'", x.count(2), 0);
        due("findings of '" + text + "'", x.status(-1), 0);
    }

    /** In a town with a girl alone; nothing may change but that the tape is empty. */
    private static void fault(String text, int place) {
        fault(() -> folk(GIRL), text, place);
    }

    private static void fault(Supplier<WrapGifts> made, String text, int place) {
        WrapGifts x = made.get();
        x.wipe();
        due("'" + text + "'", town(x, text), -1 - place);
        due("the tape after '" + text + "'", x.count(2), 0);
        WrapGifts twin = made.get();
        twin.wipe();
        due("findings of '" + text + "'", x.status(-1), twin.status(-1));
        answers++;
        if (!seenOf(x).equals(seenOf(twin))) {
            wrong++;
            System.out.println("\"" + sentence + "\": '" + text + "' changed something");
        }
    }

    private static String times(int n, String part) {
        return part.repeat(n);
    }

    private static void theText() {
        says("THE TAPE (bytes, at most 120)");
        WrapGifts x = new WrapGifts();
        feed(x, times(117, " ") + "man");
        due("120 bytes", x.count(2), 120);
        due("no more", x.feed(' ', 1), FULL);
        due("are a text", x.town(), 1);

        says("TOKENS, each as long as can be: WORDS (letters a to z)");
        fault("manaunt", 0);
        fault("manz", 0);
        fault("mana", 0);
        fault("ma", 0);
        fault("present 0 newsbrown", 10);
        fault("presents 0", 0);
        fault("MAN", 0);
        fault("man`", 3);
        fault("man{", 3);
        fault("man@", 3);

        says("NUMBERS (digits, 999 at most)");
        WrapGifts zeros = folk(GIRL);
        due("zeros", town(zeros, "present 000 thing 099"), 1);
        due("with 0", zeros.presentOf(0, 2), 0);
        due("99", zeros.presentOf(0, 1), 99);
        fault("present 0 thing 999", 16);
        fault("present 0 thing 1000", 16);
        fault("present 1000", 8);
        fault("present 256", 8);
        fault("present 4294967296", 8);
        fault("present 18446744073709551616", 8);
        fault("present 0 thing 4294967297", 16);
        fault("present 0/", 9);
        fault("present 0:", 9);

        says("blanks may stand between");
        holds("present0thing5news;man", 2);
        holds("  man  ;  present  1  thing  7  news  brown  ", 2);
        fault("m an", 0);
        fault("present 0 thing 1 2", 18);
        fault("man" + (char) 9, 3);
        fault("man" + (char) 10, 3);
        fault("man" + (char) 13, 3);
        fault("man" + (char) 160, 3);

        says("TEXT: ITEM { ; ITEM }.");
        holds("man", 1);
        holds("man;aunt;child;poor;clerk", 5);
        fault("man;", 4);
        fault(";man", 0);
        fault("man;;man", 4);
        fault("man man", 4);

        says("the name of a KIND (man aunt child poor girl clerk): one more");
        WrapGifts kinds = new WrapGifts();
        due("all", town(kinds, "clerk;girl;poor;child;aunt;man"), 6);
        for (int p = 0; p < 6; p++) {
            due("kind of " + p, kinds.of(p, 0), 5 - p);
        }

        says("present, a NUMBER (whom it is WITH; one there by then)");
        WrapGifts y = folk(GIRL);
        due("one who is there, one who comes", town(y, "present 0;man;present 1"), 3);
        due("with 1", y.presentOf(1, 2), 1);
        fault("present 1", 8);
        fault("present 1;man", 8);
        fault("man;present 2;man", 12);
        fault(WrapGifts::new, "present 0", 8);

        says("perhaps thing and a NUMBER (0 to 99)");
        holds("present 0 thing 0", 1);
        holds("present 0 thing 99", 1);
        fault("present 0 thing 100", 16);
        WrapGifts air = folk(GIRL);
        town(air, "present 0");
        due("air without", air.presentOf(0, 1), 0);

        says("then up to 6 PAPERS (news brown tissue marbled, the outermost first)");
        WrapGifts z = folk(GIRL);
        due("none", town(z, "present 0"), 1);
        due("six", town(z, "present 0 marbled tissue brown news news brown"), 1);
        due("none is", papers(z, 0), 0);
        due("six are", papers(z, 1), 432112);
        due("not found", z.now(2), 0);
    }

    private static void faults() {
        says("FAULT: the place (from 0) of the first byte of the first TOKEN that can't stand there");
        fault("aunt;man;x;!", 9);
        fault(" ;", 1);
        fault("present 0 ; thing 5", 12);
        fault("man present 9", 4);

        says("a NUMBER that may not be");
        fault("present 1 thing 100", 8);
        fault("present 0 thing 100", 16);
        fault("7", 0);
        fault("man 7", 4);
        fault("present 0 7", 10);
        fault("present 0 news 7", 15);

        says("a seventh PAPER");
        fault("present 0" + times(7, " news"), 40);
        fault("present 0 thing 5" + times(6, " tissue") + " brown;man", 60);
        holds("present 0" + times(6, " news"), 1);

        says("another WORD");
        fault("uncle", 0);
        fault("nan", 0);
        fault("mam", 0);
        fault("man;uncle", 4);
        fault("thing 5", 0);
        fault("news", 0);
        fault("present man", 8);
        fault("present 0 man", 10);
        fault("present 0 present 0", 10);
        fault("present 0 thing news", 16);
        fault("present 0 thing 5 thing 5", 18);
        fault("present 0 news thing 5", 15);

        says("a byte that begins no TOKEN");
        fault("!", 0);
        fault("man!", 3);
        fault("man;" + (char) 0, 4);
        fault("man;" + (char) 255, 4);
        fault("present -1", 8);
        fault("present 0,", 9);
        fault(times(119, " ") + "!", 119);

        says("the name of a KIND for a 7th");
        fault(BoundaryTest::fullOfPeople, "man", 0);
        fault(BoundaryTest::fullOfPeople, "present 0;man", 10);
        fault(() -> folk(MAN, MAN, MAN, MAN, MAN), "aunt;clerk", 5);
        fault(WrapGifts::new, "man;man;man;man;man;man;man", 24);
        fault(BoundaryTest::fullOfPeople, "uncle", 0);

        says("present for a 9th: its own");
        fault(BoundaryTest::fullOfPresents, "present 0", 0);
        fault(BoundaryTest::fullOfPresents, "man;present 77", 4);
        fault(() -> folk(GIRL), times(8, "present 0;") + "present 0", 80);
        WrapGifts x = folk(GIRL);
        due("eight stand", town(x, times(7, "present 0;") + "present 0"), 8);

        says("how many bytes there are if it ends too early");
        fault("", 0);
        fault("    ", 4);
        fault("man;", 4);
        fault("man;  ", 6);
        fault("present", 7);
        fault("present ", 8);
        fault("present 0 thing", 15);
        fault("present 0 thing  ", 17);
        fault("present 0 thing 5 news;", 23);
        fault("man" + times(116, " ") + ";", 120);
        fault(times(120, " "), 120);
    }

    private static void onAndSheets() {
        says("ON: n DAYS go on with all as it is; nothing changes.");
        Call[] asked = {x -> x.on(1, 60, 0), x -> x.joyOn(0, 60), x -> x.found(1), x -> x.comes(1, 0), x -> x.best(1, 30),
            x -> x.give(1, 30), x -> x.kind(0, 30), x -> x.least(1, 0, 30, 0), x -> x.order(1, 10), x -> x.happiest(60),
            x -> x.enough(1, 3, 1), x -> x.read(0, 0, 1), x -> x.does(0, 0, 1), x -> x.paper(1, 0)};
        for (Call call : asked) {
            WrapGifts x = busy();
            due("no finding", call.on(x) < -1000000000 ? 1 : 0, 0);
            due("nothing changes", seenOf(x).equals(seenOf(busy())) ? 1 : 0, 1);
        }
        WrapGifts last = onDay(9999, MAN, AUNT, CLERK);
        gift(last, 0, 50, NEWS);
        due("beyond the last day, too", last.on(0, 1, 3), 1);
        due("joy", last.joyOn(0, 60), 51);
        due("the day stays", last.now(0), 9999);

        says("SHEETS 0 to 3 are rows of at most 40 numbers of 8, 16 or 64 bits, or MISSING (at first).");
        for (int s = 0; s < 4; s++) {
            WrapGifts x = new WrapGifts();
            due("at first", x.write(s, 0, 0L), MISSING);
            due("40 numbers", x.sheet(s, 64, 40), 40);
            due("the last one", x.write(s, 39, 7L), 0);
            due("is there", x.write(s, 39, 0L), 7);
            due("no other", x.write(s, 40, 0L), BEYOND);
        }
    }

    // ---- people

    private static void people() {
        says("Nobody there; THE TAPE is empty, no image is kept.");
        WrapGifts x = new WrapGifts();
        for (int what = 0; what <= 3; what++) {
            due("count " + what, x.count(what), 0);
        }
        due("tear", x.tear(), 0);
        due("undo", x.undo(), NONE);
        due("wipe", x.wipe(), 0);
        due("days", x.days(1), 0);

        says("person: BEYOND: kind.");
        for (int kind : outside(0, 5)) {
            refused(BEYOND, BoundaryTest::busy, y -> y.person(kind));
            refused(BEYOND, BoundaryTest::fullOfPeople, y -> y.person(kind));
        }
        says("person: FULL.");
        due("a sixth", folk(MAN, MAN, MAN, MAN, MAN).person(CLERK), 5);
        for (int kind = 0; kind < 6; kind++) {
            int k = kind;
            refused(FULL, BoundaryTest::fullOfPeople, y -> y.person(k));
        }

        says("of: 2 PRESENTS that are WITH it, as a set, 3 those of these that aren't FOUND, as a set.");
        WrapGifts y = busy();
        due("found, too", y.of(2, 2), 0b001);
        due("not found", y.of(2, 3), 0);
        due("of another one", y.of(0, 3), 0b010);
        due("none", folk(MAN).of(0, 2), 0);
        due("all eight", alone8(AUNT).of(0, 2), 255);
        due("all eight, not found", alone8(AUNT).of(0, 3), 255);

        says("of: BEYOND.");
        for (int person : outside(0, 2)) {
            refused(BEYOND, BoundaryTest::busy, z -> z.of(person, 0));
        }
        for (int what : outside(0, 3)) {
            refused(BEYOND, BoundaryTest::busy, z -> z.of(0, what));
        }
        refused(BEYOND, WrapGifts::new, z -> z.of(0, 0));
        due("the last one", busy().of(2, 0), CHILD);
    }

    private static void does() {
        says("does: (0: no)");
        due("no", busy().does(2, 3, 1), 0);
        says("does: BEYOND.");
        for (int what = 0; what <= 3; what++) {
            int w = what;
            for (int person : outside(0, 2)) {
                refused(BEYOND, BoundaryTest::busy, x -> x.does(person, w, 1));
                // Asked before NONE.
                refused(BEYOND, BoundaryTest::busy, x -> x.does(person, w, 0));
            }
            for (int present : outside(0, 2)) {
                refused(BEYOND, BoundaryTest::busy, x -> x.does(0, w, present));
            }
        }
        for (int what : outside(0, 3)) {
            refused(BEYOND, BoundaryTest::busy, x -> x.does(0, what, 1));
            refused(BEYOND, BoundaryTest::busy, x -> x.does(0, what, 0));
        }
        refused(BEYOND, WrapGifts::new, x -> x.does(0, 0, 0));
        refused(BEYOND, () -> folk(MAN), x -> x.does(0, 2, 0));

        says("does: NONE: there is no LAYER (what 0, 1).");
        for (int person = 0; person < 3; person++) {
            int p = person;
            refused(NONE, BoundaryTest::busy, x -> x.does(p, 0, 0));
            refused(NONE, BoundaryTest::busy, x -> x.does(p, 1, 0));
        }
        refused(NONE, () -> alone(GIRL, 3), x -> x.does(0, 0, 0));
        due("what 2", busy().does(0, 2, 0), 50);
        due("what 3", busy().does(0, 3, 0), 0);
    }

    private static void joyTurnAs() {
        says("joy: BEYOND.");
        for (int person : outside(0, 2)) {
            refused(BEYOND, BoundaryTest::busy, x -> x.joy(person, 0));
        }
        for (int v : outside(0, 9999)) {
            refused(BEYOND, BoundaryTest::busy, x -> x.joy(0, v));
        }
        refused(BEYOND, WrapGifts::new, x -> x.joy(0, 0));
        due("most", busy().joy(0, 9999), 7);
        due("least", busy().joy(0, 0), 7);
        due("the last one", busy().joy(2, 1), 100);

        says("turn: BEYOND.");
        for (int person : outside(0, 2)) {
            refused(BEYOND, BoundaryTest::busy, x -> x.turn(person, 0));
        }
        for (int kind : outside(0, 5)) {
            refused(BEYOND, BoundaryTest::busy, x -> x.turn(0, kind));
        }
        refused(BEYOND, WrapGifts::new, x -> x.turn(0, 0));
        due("the last kind", busy().turn(0, CLERK), MAN);
        due("the first kind", busy().turn(2, MAN), CHILD);
        due("the same kind", busy().turn(1, AUNT), AUNT);

        says("as: BEYOND: no such one, kind.");
        for (int person : outside(0, 2)) {
            refused(BEYOND, BoundaryTest::busy, x -> x.as(person, 0));
            refused(BEYOND, BoundaryTest::busy, x -> x.as(person, 5));
        }
        for (int kind : outside(0, 5)) {
            refused(BEYOND, BoundaryTest::busy, x -> x.as(0, kind));
        }
        refused(BEYOND, WrapGifts::new, x -> x.as(0, 0));

        says("as: KIND: it isn't of that kind, nor of one under it.");
        int[] above = {MAN, MAN, MAN, MAN, CHILD, AUNT};
        for (int one = 0; one < 6; one++) {
            for (int kind = 0; kind < 6; kind++) {
                int p = one;
                int k = kind;
                if (kind == one || kind == above[one] || kind == MAN) {
                    due(one + " is " + kind, fullOfPeople().as(one, kind), 0);
                } else {
                    refused(KIND, BoundaryTest::fullOfPeople, x -> x.as(p, k));
                }
            }
        }
        WrapGifts turned = folk(MAN);
        turned.turn(0, GIRL);
        due("turned into one under it", turned.as(0, CHILD), 0);
        turned.turn(0, MAN);
        due("turned back", turned.as(0, CHILD), KIND);
    }

    // ---- presents

    private static void presents() {
        says("present: A new PRESENT WITH one, no LAYERS, not FOUND");
        WrapGifts kept = folk(GIRL, AUNT);
        kept.image();
        gift(kept, 0, 5, NEWS, BROWN);
        gift(kept, 1, 6, NEWS, BROWN);
        kept.days(1);
        kept.undo();
        for (int g = 0; g < 2; g++) {
            // The first was found, the second had layers, before there was none again.
            due("a number again", kept.present(1 - g, 7 + g), g);
            due("no layers", kept.presentOf(g, 0), 0);
            due("not found", kept.presentOf(g, 3), 0);
            due("thing", kept.presentOf(g, 1), 7 + g);
            due("with", kept.presentOf(g, 2), 1 - g);
        }

        says("present: BEYOND: person, thing.");
        for (int person : outside(0, 2)) {
            refused(BEYOND, BoundaryTest::busy, x -> x.present(person, 0));
        }
        for (int thing : outside(0, 99)) {
            refused(BEYOND, BoundaryTest::busy, x -> x.present(0, thing));
            refused(BEYOND, BoundaryTest::fullOfPresents, x -> x.present(0, thing));
        }
        refused(BEYOND, BoundaryTest::fullOfPresents, x -> x.present(2, 0));
        refused(BEYOND, WrapGifts::new, x -> x.present(0, 0));
        says("present: FULL.");
        refused(FULL, BoundaryTest::fullOfPresents, x -> x.present(0, 0));
        refused(FULL, BoundaryTest::fullOfPresents, x -> x.present(1, 99));

        says("presentOf: BEYOND.");
        for (int present : outside(0, 2)) {
            refused(BEYOND, BoundaryTest::busy, x -> x.presentOf(present, 0));
        }
        for (int what : outside(0, 3)) {
            refused(BEYOND, BoundaryTest::busy, x -> x.presentOf(1, what));
        }
        refused(BEYOND, () -> folk(MAN), x -> x.presentOf(0, 0));

        says("paper: BEYOND: present, i below 0.");
        for (int present : outside(0, 2)) {
            refused(BEYOND, BoundaryTest::busy, x -> x.paper(present, 0));
            refused(BEYOND, BoundaryTest::busy, x -> x.paper(present, 6));
        }
        refused(BEYOND, BoundaryTest::busy, x -> x.paper(1, -1));
        refused(BEYOND, BoundaryTest::busy, x -> x.paper(1, MIN));
        refused(BEYOND, BoundaryTest::busy, x -> x.paper(0, -1));
        says("paper: NONE: it has not so many.");
        due("the last one", busy().paper(1, 1), BROWN);
        refused(NONE, BoundaryTest::busy, x -> x.paper(1, 2));
        refused(NONE, BoundaryTest::busy, x -> x.paper(1, 6));
        refused(NONE, BoundaryTest::busy, x -> x.paper(1, MAX));
        refused(NONE, BoundaryTest::busy, x -> x.paper(0, 0));
        due("the sixth", wrappedFull().paper(1, 5), BROWN);
        refused(NONE, BoundaryTest::wrappedFull, x -> x.paper(1, 6));
    }

    private static void wrapUnwrapSet() {
        says("wrap: BEYOND.");
        for (int present : outside(0, 2)) {
            refused(BEYOND, BoundaryTest::busy, x -> x.wrap(present, 0));
        }
        for (int paper : outside(0, 3)) {
            refused(BEYOND, BoundaryTest::busy, x -> x.wrap(1, paper));
            refused(BEYOND, BoundaryTest::busy, x -> x.wrap(0, paper));
            refused(BEYOND, BoundaryTest::wrappedFull, x -> x.wrap(1, paper));
        }
        says("wrap: FULL: it has 6.");
        due("it has 5", wrappedFull().wrap(2, MARBLED), 6);
        refused(FULL, BoundaryTest::wrappedFull, x -> x.wrap(1, MARBLED));
        says("wrap: STATE: it is FOUND.");
        refused(STATE, BoundaryTest::busy, x -> x.wrap(0, NEWS));
        due("no layers, not found", alone(AUNT, 0).wrap(0, NEWS), 1);

        says("unwrap: The outermost LAYER is taken off (by nobody): its PAPER (FOUND stays as it is).");
        WrapGifts x = alone(GIRL, 5, TISSUE, MARBLED);
        due("the outermost", x.unwrap(0), MARBLED);
        due("the last", x.unwrap(0), TISSUE);
        due("no layers", x.presentOf(0, 0), 0);
        due("not found", x.presentOf(0, 3), 0);
        due("nobody's joy", x.now(1), 0);
        says("unwrap: BEYOND.");
        for (int present : outside(0, 2)) {
            refused(BEYOND, BoundaryTest::busy, y -> y.unwrap(present));
        }
        refused(BEYOND, WrapGifts::new, y -> y.unwrap(0));
        says("unwrap: NONE.");
        refused(NONE, BoundaryTest::busy, y -> y.unwrap(0));
        refused(NONE, () -> alone(GIRL, 5), y -> y.unwrap(0));

        says("set: BEYOND.");
        for (int present : outside(0, 2)) {
            refused(BEYOND, BoundaryTest::busy, y -> y.set(present, 1, 0));
            refused(BEYOND, BoundaryTest::busy, y -> y.set(present, 2, 0));
        }
        for (int what : outside(1, 2)) {
            refused(BEYOND, BoundaryTest::busy, y -> y.set(1, what, 0));
        }
        for (int thing : outside(0, 99)) {
            refused(BEYOND, BoundaryTest::busy, y -> y.set(1, 1, thing));
        }
        for (int person : outside(0, 2)) {
            refused(BEYOND, BoundaryTest::busy, y -> y.set(1, 2, person));
        }
        due("thing 99", busy().set(1, 1, 99), 10);
        due("thing 0", busy().set(1, 1, 0), 10);
        WrapGifts given = busy();
        due("with the last", given.set(1, 2, 2), 0);
        due("it is", given.presentOf(1, 2), 2);
        due("of one that is found", given.set(0, 2, 0), 2);
        due("it is, too", given.presentOf(0, 2), 0);
        due("and stays found", given.presentOf(0, 3), 1);
    }

    // ---- days

    private static void days() {
        says("days: n DAYS go (1 to 60)");
        WrapGifts x = slowOnDay1();
        due("60", x.days(60), 1);
        due("day", x.now(0), 61);
        WrapGifts y = slowOnDay1();
        due("59", y.days(59), 0b10000001);
        due("1 more", y.days(1), 1);
        says("days: BEYOND.");
        for (int n : outside(1, 60)) {
            refused(BEYOND, BoundaryTest::busy, z -> z.days(n));
            refused(BEYOND, () -> onDay(9999, MAN), z -> z.days(n));
        }
        says("days: STATE: DAY would be above 9999.");
        refused(STATE, () -> onDay(9999, MAN), z -> z.days(1));
        refused(STATE, () -> onDay(9999, MAN), z -> z.days(60));
        refused(STATE, () -> onDay(9940, MAN), z -> z.days(60));
        refused(STATE, () -> onDay(9998, MAN), z -> z.days(2));
        due("just 9999", onDay(9939, MAN).days(60), 0);
        due("just 9999, in one", onDay(9998, MAN).days(1), 0);

        says("now: BEYOND.");
        for (int what : outside(0, 4)) {
            refused(BEYOND, BoundaryTest::busy, z -> z.now(what));
        }
        says("now: 1 JOY of all together, 2 PRESENTS that are FOUND, as a set, 3 LAYERS of all together, 4 THINGS of those that are "
            + "FOUND together.");
        WrapGifts most = folk(MAN, MAN, MAN, MAN, MAN, MAN);
        for (int p = 0; p < 6; p++) {
            most.joy(p, 9999);
        }
        due("six times 9999", most.now(1), 59994);
        for (int g = 0; g < 8; g++) {
            gift(most, g % 6, 99, layers(6, NEWS));
        }
        due("eight times 6", most.now(3), 48);
        due("none is found", most.now(4), 0);
        WrapGifts girl = folk(GIRL);
        for (int g = 0; g < 8; g++) {
            gift(girl, 0, 99);
        }
        girl.days(8);
        due("eight times 99", girl.now(4), 792);
        due("all", girl.now(2), 255);
        due("no layers", girl.now(3), 0);
    }

    private static void onJoyOn() {
        says("on: Of a PRESENT ON n DAYS (0 to 60)");
        due("0", busy().on(1, 0, 0), 2);
        due("0: with", busy().on(0, 0, 2), 2);
        due("0: found", busy().on(0, 0, 3), 1);
        due("59", slowOnDay1().on(7, 59, 3), 0);
        due("60", slowOnDay1().on(7, 60, 3), 1);
        due("60: layers", slowOnDay1().on(7, 60, 0), 0);
        due("60: with", slowOnDay1().on(0, 60, 2), 0);
        due("59: with", slowOnDay1().on(0, 59, 2), 1);
        says("on: BEYOND.");
        for (int present : outside(0, 2)) {
            refused(BEYOND, BoundaryTest::busy, x -> x.on(present, 0, 0));
        }
        for (int n : outside(0, 60)) {
            refused(BEYOND, BoundaryTest::busy, x -> x.on(1, n, 0));
        }
        for (int what : outside(0, 3)) {
            refused(BEYOND, BoundaryTest::busy, x -> x.on(1, 0, what));
        }
        refused(BEYOND, BoundaryTest::busy, x -> x.on(1, 0, 1));

        says("joyOn: JOY of one ON n DAYS (0 to 60).");
        due("0", busy().joyOn(0, 0), 7);
        due("59", slowOnDay1().joyOn(0, 59), 6);
        due("60", slowOnDay1().joyOn(0, 60), 6 + 1 + 49);
        says("joyOn: BEYOND.");
        for (int person : outside(0, 2)) {
            refused(BEYOND, BoundaryTest::busy, x -> x.joyOn(person, 0));
        }
        for (int n : outside(0, 60)) {
            refused(BEYOND, BoundaryTest::busy, x -> x.joyOn(0, n));
        }
    }

    private static void foundComes() {
        says("found: In how many DAYS (0 to 60) ON a PRESENT is FOUND first.");
        due("0", busy().found(0), 0);
        due("1", alone(GIRL, 5).found(0), 1);
        due("60", slowOnDay1().found(7), 60);
        says("found: BEYOND.");
        for (int present : outside(0, 2)) {
            refused(BEYOND, BoundaryTest::busy, x -> x.found(present));
        }
        says("found: NONE.");
        refused(NONE, BoundaryTest::slow, x -> x.found(7));
        refused(NONE, BoundaryTest::busy, x -> x.found(2));

        says("comes: In how many DAYS (0 to 60) ON a PRESENT is WITH one first.");
        due("0", busy().comes(0, 2), 0);
        due("1", fourLayers().comes(0, 1), 1);
        WrapGifts x = slow();
        x.wrap(7, NEWS);
        x.unwrap(6);
        x.wrap(6, NEWS);
        // The clerk has done with presents 1 to 6 on day 50 and gives the one of two layers on on day 52.
        due("53", x.comes(7, 1), 53);
        WrapGifts farthest = comesIn61();
        farthest.days(1);
        due("60", farthest.comes(7, 1), 60);
        says("comes: BEYOND.");
        for (int present : outside(0, 2)) {
            refused(BEYOND, BoundaryTest::busy, y -> y.comes(present, 0));
        }
        for (int person : outside(0, 2)) {
            refused(BEYOND, BoundaryTest::busy, y -> y.comes(1, person));
            refused(BEYOND, BoundaryTest::busy, y -> y.comes(0, person));
        }
        says("comes: NONE.");
        refused(NONE, BoundaryTest::comesIn61, y -> y.comes(7, 1));
        refused(NONE, BoundaryTest::busy, y -> y.comes(0, 0));
    }

    private static WrapGifts fourLayers() {
        WrapGifts x = folk(MAN, AUNT);
        gift(x, 0, 5, layers(4, NEWS));
        return x;
    }

    /** As slow, but from day 2 on: the six are opened on days 10 to 60, the one of two layers is given on on day 62. */
    private static WrapGifts comesIn61() {
        WrapGifts x = folk(CLERK, CLERK);
        x.days(2);
        gift(x, 1, 0, layers(6, NEWS));
        for (int g = 1; g <= 6; g++) {
            gift(x, 0, 1, NEWS);
        }
        gift(x, 0, 99, NEWS, NEWS);
        return x;
    }

    // ---- what is best

    /** A man alone with 29 layers ahead of a present without any. */
    private static WrapGifts behind29() {
        WrapGifts x = folk(MAN);
        for (int g = 0; g < 4; g++) {
            gift(x, 0, 0, layers(6, NEWS));
        }
        gift(x, 0, 0, layers(5, NEWS));
        gift(x, 0, 0);
        return x;
    }

    private static void best() {
        says("best: makes JOY of all together most ON n DAYS (1 to 30); of several the least.");
        due("1", alone(MAN, 0).best(0, 1), MARBLED);
        due("30", behind29().best(5, 30), MARBLED);
        due("29: of several the least", behind29().best(5, 29), NEWS);
        due("the poor", alone(POOR, 0).best(0, 1), NEWS);
        due("a girl: of several the least", alone(GIRL, 9).best(0, 30), NEWS);
        WrapGifts child = alone(CHILD, 0);
        due("a child", child.best(0, 1), MARBLED);
        child.joy(0, 9998);
        due("at most 9999: of several the least", child.best(0, 1), BROWN);
        WrapGifts five = wrappedFull();
        five.turn(0, MAN);
        due("as the sixth", five.best(2, 7), MARBLED);
        says("best: BEYOND.");
        for (int present : outside(0, 2)) {
            refused(BEYOND, BoundaryTest::busy, x -> x.best(present, 1));
        }
        for (int n : outside(1, 30)) {
            refused(BEYOND, BoundaryTest::busy, x -> x.best(1, n));
            refused(BEYOND, BoundaryTest::busy, x -> x.best(0, n));
            refused(BEYOND, BoundaryTest::wrappedFull, x -> x.best(1, n));
        }
        says("best: FULL: it has 6.");
        refused(FULL, BoundaryTest::wrappedFull, x -> x.best(1, 1));
        due("it has 5", wrappedFull().best(2, 1), NEWS);
        says("best: STATE: it is FOUND.");
        refused(STATE, BoundaryTest::busy, x -> x.best(0, 1));
        refused(STATE, BoundaryTest::wrappedFull, x -> x.best(0, 30));
    }

    private static void give() {
        says("give: so that JOY of all together is most ON n DAYS (1 to 30); of several the least.");
        WrapGifts late = clerkOnDay1(AUNT);
        gift(late, 0, 99, NEWS);
        due("30", late.give(5, 30), 1);
        due("29: of several the least", late.give(5, 29), 0);
        WrapGifts x = folk(AUNT, GIRL, GIRL);
        gift(x, 0, 3);
        due("1: of several the least", x.give(0, 1), 1);
        due("one alone", alone(AUNT, 3, NEWS).give(0, 30), 0);
        due("one that is found", busy().give(0, 30), 0);
        WrapGifts last = folk(MAN, MAN, MAN, MAN, MAN, GIRL);
        gift(last, 0, 3);
        due("the last of six", last.give(0, 1), 5);
        says("give: BEYOND.");
        for (int present : outside(0, 2)) {
            refused(BEYOND, BoundaryTest::busy, y -> y.give(present, 1));
        }
        for (int n : outside(1, 30)) {
            refused(BEYOND, BoundaryTest::busy, y -> y.give(1, n));
        }
        refused(BEYOND, WrapGifts::new, y -> y.give(0, 1));
    }

    private static void kind() {
        says("kind: The KIND as one of which one has most JOY ON n DAYS (1 to 30); of several the least.");
        // The clerk opens six on days 5, .., 30, gives the seventh on on day 31: the other one tears it on day 32.
        WrapGifts x = onDay(3, CLERK, MAN);
        for (int g = 0; g < 6; g++) {
            gift(x, 0, 1, NEWS);
        }
        gift(x, 0, 20, NEWS, NEWS);
        due("30", x.kind(1, 30), GIRL);
        due("29: of several the least", x.kind(1, 29), MAN);
        due("1", alone(AUNT, 20).kind(0, 1), GIRL);
        due("the last kind", alone(MAN, 0, MARBLED).kind(0, 1), CLERK);
        due("the poor", alone(MAN, 0, NEWS, NEWS).kind(0, 2), POOR);
        WrapGifts glad = alone(AUNT, 20);
        glad.joy(0, 9999);
        due("at most 9999: of several the least", glad.kind(0, 1), MAN);
        says("kind: BEYOND.");
        for (int person : outside(0, 2)) {
            refused(BEYOND, BoundaryTest::busy, y -> y.kind(person, 1));
        }
        for (int n : outside(1, 30)) {
            refused(BEYOND, BoundaryTest::busy, y -> y.kind(0, n));
        }
        refused(BEYOND, WrapGifts::new, y -> y.kind(0, 1));
    }

    private static WrapGifts sixthOnDay30() {
        WrapGifts x = clerkOnDay1();
        gift(x, 0, 1, NEWS);
        return x;
    }

    private static void least() {
        says("least: The least THING (0 to 99) in a PRESENT with which JOY of one is v (0 to 9999) or more ON n DAYS (1 to 30).");
        due("30", sixthOnDay30().least(5, 0, 30, 5 + 1 + 20), 40);
        due("29", sixthOnDay30().least(5, 0, 29, 5), 0);
        due("v 0", alone(MAN, 50).least(0, 0, 1, 0), 0);
        due("just v", alone(MAN, 50).least(0, 0, 1, 77), 77);
        due("99", alone(MAN, 50).least(0, 0, 1, 99), 99);
        due("or more", alone(CHILD, 50).least(0, 0, 1, 77), 39);
        WrapGifts glad = alone(MAN, 0);
        glad.joy(0, 9901);
        due("v 9999", glad.least(0, 0, 1, 9999), 98);
        glad.joy(0, 9999);
        due("v 9999, there", glad.least(0, 0, 1, 9999), 0);
        says("least: BEYOND.");
        for (int present : outside(0, 2)) {
            refused(BEYOND, BoundaryTest::busy, x -> x.least(present, 0, 1, 0));
        }
        for (int person : outside(0, 2)) {
            refused(BEYOND, BoundaryTest::busy, x -> x.least(1, person, 1, 0));
        }
        for (int n : outside(1, 30)) {
            refused(BEYOND, BoundaryTest::busy, x -> x.least(1, 0, n, 0));
        }
        for (int v : outside(0, 9999)) {
            refused(BEYOND, BoundaryTest::busy, x -> x.least(1, 0, 1, v));
        }
        says("least: NONE.");
        refused(NONE, () -> alone(MAN, 50), x -> x.least(0, 0, 1, 100));
        refused(NONE, () -> alone(MAN, 50), x -> x.least(0, 0, 30, 9999));
        refused(NONE, BoundaryTest::sixthOnDay30, x -> x.least(5, 0, 29, 6));
        refused(NONE, BoundaryTest::busy, x -> x.least(0, 2, 30, 101));
    }

    /** A man alone with nine layers ahead of a present in news, with marbled paper within. */
    private static WrapGifts behind9() {
        WrapGifts x = folk(MAN);
        gift(x, 0, 0, layers(6, NEWS));
        gift(x, 0, 0, layers(3, NEWS));
        gift(x, 0, 0, MARBLED, NEWS);
        return x;
    }

    private static void order() {
        says("order: in which JOY of all together is most ON n DAYS (1 to 10); of several the least.");
        due("10", behind9().order(2, 10), 41);
        due("9: of several the least", behind9().order(2, 9), 14);
        due("1", alone(MAN, 0, MARBLED, NEWS).order(0, 1), 41);
        says("order: its own LAYERS (told by PAPERS, the outermost first, as a number of as many digits, each 1 more than the PAPER)");
        due("one", alone(AUNT, 0, NEWS).order(0, 1), 1);
        due("five alike", alone(AUNT, 0, layers(5, MARBLED)).order(0, 10), 44444);
        WrapGifts three = folk(MAN, AUNT);
        gift(three, 0, 0, NEWS, MARBLED, NEWS);
        due("three, which a man doesn't pass on", three.order(0, 1), 411);
        three.wrap(0, NEWS);
        due("four, which he does", three.order(0, 1), 1114);
        due("five", alone(AUNT, 0, MARBLED, TISSUE, BROWN, NEWS, NEWS).order(0, 10), 11234);
        due("five, the best first", alone(MAN, 0, NEWS, NEWS, TISSUE, MARBLED, NEWS).order(0, 1), 41113);
        due("the poor, who leave marbled on", alone(POOR, 0, NEWS, MARBLED, BROWN, BROWN, MARBLED).order(0, 3), 12244);
        says("order: BEYOND.");
        for (int present : outside(0, 2)) {
            refused(BEYOND, BoundaryTest::busy, x -> x.order(present, 1));
        }
        for (int n : outside(1, 10)) {
            refused(BEYOND, BoundaryTest::busy, x -> x.order(1, n));
            refused(BEYOND, BoundaryTest::busy, x -> x.order(0, n));
            refused(BEYOND, BoundaryTest::wrappedFull, x -> x.order(1, n));
        }
        says("order: NONE: it has no LAYERS.");
        refused(NONE, BoundaryTest::busy, x -> x.order(0, 1));
        refused(NONE, () -> alone(MAN, 0), x -> x.order(0, 10));
        says("order: SIZE: it has more than 5.");
        refused(SIZE, BoundaryTest::wrappedFull, x -> x.order(1, 1));
        due("it has 5", wrappedFull().order(2, 1), 33333);
    }

    private static void happiest() {
        says("happiest: Who has most JOY ON n DAYS (0 to 60); of several the least.");
        WrapGifts x = slowOnDay1();
        x.joy(1, 56);
        due("59", x.happiest(59), 1);
        due("60: of several the least", x.happiest(60), 0);
        x.joy(1, 57);
        due("60: one more", x.happiest(60), 1);
        due("0", busy().happiest(0), 2);
        due("0: of several the least", fullOfPeople().happiest(0), 0);
        WrapGifts last = fullOfPeople();
        last.joy(5, 1);
        due("the last of six", last.happiest(0), 5);
        says("happiest: BEYOND.");
        for (int n : outside(0, 60)) {
            refused(BEYOND, BoundaryTest::busy, y -> y.happiest(n));
            refused(BEYOND, WrapGifts::new, y -> y.happiest(n));
        }
        says("happiest: NONE: nobody is there.");
        refused(NONE, WrapGifts::new, y -> y.happiest(0));
        refused(NONE, WrapGifts::new, y -> y.happiest(60));
        due("one alone", folk(AUNT).happiest(60), 0);
    }

    private static void enough() {
        says("enough: so that it is not FOUND ON n DAYS (1 to 30).");
        due("30", sixthOnDay30().enough(5, NEWS, 30), 1);
        due("29: none must come", sixthOnDay30().enough(5, NEWS, 29), 0);
        due("1", alone(MAN, 0).enough(0, NEWS, 1), 2);
        due("as many as can be", alone(MAN, 0).enough(0, NEWS, 5), 6);
        due("a full one needs none", wrappedFull().enough(1, NEWS, 30), 0);
        due("a bare one with an aunt", alone(AUNT, 0).enough(0, MARBLED, 30), 1);
        says("enough: BEYOND.");
        for (int present : outside(0, 2)) {
            refused(BEYOND, BoundaryTest::busy, x -> x.enough(present, 0, 1));
        }
        for (int paper : outside(0, 3)) {
            refused(BEYOND, BoundaryTest::busy, x -> x.enough(1, paper, 1));
            refused(BEYOND, BoundaryTest::busy, x -> x.enough(0, paper, 1));
        }
        for (int n : outside(1, 30)) {
            refused(BEYOND, BoundaryTest::busy, x -> x.enough(1, 0, n));
            refused(BEYOND, BoundaryTest::busy, x -> x.enough(0, 0, n));
        }
        says("enough: STATE: it is FOUND.");
        refused(STATE, BoundaryTest::busy, x -> x.enough(0, 0, 1));
        refused(STATE, BoundaryTest::wrappedFull, x -> x.enough(0, 3, 30));
        says("enough: NONE: not with as many as can be.");
        refused(NONE, () -> alone(MAN, 0), x -> x.enough(0, NEWS, 6));
        refused(NONE, () -> alone(GIRL, 0, layers(6, NEWS)), x -> x.enough(0, NEWS, 1));
        refused(NONE, () -> alone(GIRL, 0), x -> x.enough(0, MARBLED, 1));
        refused(NONE, () -> alone(MAN, 0, layers(6, NEWS)), x -> x.enough(0, MARBLED, 6));
        due("one day less", alone(MAN, 0, layers(6, NEWS)).enough(0, MARBLED, 5), 0);
    }

    // ---- the text's calls

    private static WrapGifts tapeOf(int n) {
        WrapGifts x = folk(MAN);
        for (int k = 0; k < n / 4; k++) {
            x.feed(0x20202020, 4);
        }
        for (int k = 0; k < n % 4; k++) {
            x.feed(' ', 1);
        }
        return x;
    }

    private static void tape() {
        says("feed: THE TAPE gets the n lowest bytes of a number behind it, the highest of these first (n 1 to 4)");
        WrapGifts x = new WrapGifts();
        due("one of four", x.feed(0x6D616E6D, 1), 1);
        due("two of four", x.feed(0x3B3B616E, 2), 3);
        due("four", x.feed(0x3B61756E, 4), 7);
        due("three of four, below 0", x.feed(0xFF743B20, 3), 10);
        due("two", x.feed(0x706F, 2), 12);
        due("two", x.feed(0xFFFF6F72, 2), 14);
        due("man;aunt; poor", x.town(), 3);
        due("the last", x.of(2, 0), POOR);
        WrapGifts high = new WrapGifts();
        high.feed(-1, 4);
        due("a byte of 255 is no blank", high.town(), -1);
        says("feed: BEYOND: n.");
        for (int n : outside(1, 4)) {
            refused(BEYOND, BoundaryTest::busy, y -> y.feed(' ', n));
            refused(BEYOND, () -> tapeOf(120), y -> y.feed(' ', n));
        }
        says("feed: FULL.");
        for (int n = 1; n <= 4; n++) {
            int m = n;
            due("just 120", tapeOf(120 - n).feed(0x20202020, n), 120);
            refused(FULL, () -> tapeOf(121 - m), y -> y.feed(0x20202020, m));
            refused(FULL, () -> tapeOf(120), y -> y.feed(0x20202020, m));
        }

        says("wipe: THE TAPE is empty: how many it had.");
        WrapGifts full = tapeOf(120);
        due("all", full.wipe(), 120);
        due("none", full.wipe(), 0);
        due("it takes again", full.feed('m', 1), 1);
        due("no finding", full.status(-1), 0);
        nothingIsLeftOnTheTape();
    }

    private static void nothingIsLeftOnTheTape() {
        String[] before = {"present 0999", "man;present 0 thing 9 news", "                     ", "mannmannmann", ";;;;;;;;;;;;;"};
        String[] then = {"present 0", "present 0", "man", "man", "man"};
        for (int k = 0; k < then.length; k++) {
            WrapGifts emptied = folk(GIRL);
            feed(emptied, before[k]);
            emptied.wipe();
            due("'" + then[k] + "' after '" + before[k] + "'", town(emptied, then[k]), 1);
            due("air", emptied.count(1) == 0 ? 0 : emptied.presentOf(0, 1), 0);
        }
    }

    private static void town() {
        says("town: THE TAPE is THE TEXT of a TOWN, whose ITEMS come to what there is, and empty then: how many ITEMS.");
        WrapGifts x = busy();
        due("aunt", x.town(), 1);
        due("behind the others", x.of(3, 0), AUNT);
        due("what is stays", x.of(0, 1), 7);
        due("empty", x.count(2), 0);
        due("the day stays", x.now(0), 1);
        WrapGifts most = new WrapGifts();
        due("as many as there may be", town(most, "man;man;man;man;man;man"), 6);
        due("and presents", town(most, times(7, "present 5;") + "present 5"), 8);
        due("people", most.count(0), 6);
        due("presents", most.count(1), 8);

        says("town: With a FAULT: -1 less its place (nothing changes but that THE TAPE is empty; no finding).");
        fault(BoundaryTest::busy, "man;present 3 thing 5 news;aunt;!", 32);
        fault(BoundaryTest::busy, "", 0);
        fault(BoundaryTest::busy, "present 0 thing 5 news brown;present 9", 37);
    }

    // ---- sheets

    private static void sheet() {
        says("sheet: A sheet has n numbers, all 0, of 8, 16 or 64 bits");
        for (int bits : new int[] {8, 16, 64}) {
            WrapGifts x = busy();
            due("none", x.sheet(0, bits, 0), 0);
            due("no number", x.write(0, 0, 0L), BEYOND);
            due("most", x.sheet(0, bits, 40), 40);
            for (int i = 0; i < 40; i++) {
                due("all 0", x.write(0, i, -1L), 0);
            }
            due("one", x.sheet(0, bits, 1), 1);
            due("it has no second", x.write(0, 1, 0L), BEYOND);
            due("most again", x.sheet(0, bits, 40), 40);
            for (int i = 0; i < 40; i++) {
                due("all 0 again", x.write(0, i, -1L), 0);
            }
        }
        says("sheet: bits 0: it is MISSING: n (0 if it is MISSING).");
        WrapGifts x = busy();
        due("0", x.sheet(0, 0, 0), 0);
        due("missing", x.write(0, 0, 0L), MISSING);
        due("0 of 40", x.sheet(1, 0, 40), 0);
        due("missing, too", x.write(1, 0, 0L), MISSING);
        due("missing already", x.sheet(3, 0, 5), 0);
        due("the other stays", x.write(2, 0, 0L), BEYOND);
        says("sheet: BEYOND: no such sheet, other bits.");
        for (int s : outside(0, 3)) {
            refused(BEYOND, BoundaryTest::busy, y -> y.sheet(s, 8, 1));
            refused(BEYOND, BoundaryTest::busy, y -> y.sheet(s, 8, -1));
        }
        for (int bits : new int[] {-8, -1, 1, 7, 9, 15, 17, 32, 63, 65, 128, 256, MIN, MAX}) {
            refused(BEYOND, BoundaryTest::busy, y -> y.sheet(0, bits, 1));
            refused(BEYOND, BoundaryTest::busy, y -> y.sheet(0, bits, -1));
        }
        says("sheet: SIZE: n is below 0 (also with bits 0).");
        for (int bits : new int[] {0, 8, 16, 64}) {
            refused(SIZE, BoundaryTest::busy, y -> y.sheet(0, bits, -1));
            refused(SIZE, BoundaryTest::busy, y -> y.sheet(0, bits, MIN));
            refused(SIZE, BoundaryTest::busy, y -> y.sheet(3, bits, -1));
        }
        says("sheet: BEYOND: n is above 40 (also with bits 0).");
        for (int bits : new int[] {0, 8, 16, 64}) {
            refused(BEYOND, BoundaryTest::busy, y -> y.sheet(0, bits, 41));
            refused(BEYOND, BoundaryTest::busy, y -> y.sheet(0, bits, MAX));
            refused(BEYOND, BoundaryTest::busy, y -> y.sheet(3, bits, 41));
        }
    }

    private static void write() {
        says("write: Number i of a sheet becomes v (its lowest bits): what it was.");
        long[] written = {127, 128, 255, 256, -1, -128, -129, 32767, 32768, 65535, 65536, Long.MAX_VALUE, Long.MIN_VALUE};
        long[] of8 = {127, -128, -1, 0, -1, -128, 127, -1, 0, -1, 0, -1, 0};
        long[] of16 = {127, 128, 255, 256, -1, -128, -129, 32767, -32768, -1, 0, -1, 0};
        WrapGifts x = new WrapGifts();
        x.sheet(0, 8, 1);
        x.sheet(1, 16, 1);
        x.sheet(2, 64, 1);
        for (int k = 0; k < written.length; k++) {
            for (int s = 0; s < 3; s++) {
                x.write(s, 0, written[k]);
            }
            due(written[k] + " of 8", x.write(0, 0, 0L), of8[k]);
            due(written[k] + " of 16", x.write(1, 0, 0L), of16[k]);
            due(written[k] + " of 64", x.write(2, 0, 0L), written[k]);
        }
        says("write: BEYOND: no such sheet.");
        for (int s : outside(0, 3)) {
            refused(BEYOND, BoundaryTest::busy, y -> y.write(s, 0, 5L));
        }
        says("write: MISSING.");
        refused(MISSING, BoundaryTest::busy, y -> y.write(3, 0, 5L));
        refused(MISSING, BoundaryTest::busy, y -> y.write(3, -1, 5L));
        refused(MISSING, BoundaryTest::busy, y -> y.write(3, 40, 5L));
        says("write: BEYOND: no such number.");
        for (int i : outside(0, 2)) {
            refused(BEYOND, BoundaryTest::busy, y -> y.write(0, i, 5L));
        }
        refused(BEYOND, BoundaryTest::busy, y -> y.write(2, 0, 5L));
        due("the last", busy().write(0, 2, 5L), 3);
        due("the first", busy().write(0, 0, 5L), 1);
    }

    private static WrapGifts threeSheets() {
        WrapGifts x = new WrapGifts();
        x.sheet(0, 16, 5);
        x.sheet(1, 16, 3);
        x.sheet(2, 8, 5);
        for (int i = 0; i < 5; i++) {
            x.write(0, i, i + 1);
            x.write(2, i, i + 6);
        }
        return x;
    }

    private static void rowIs(WrapGifts x, int s, int... row) {
        for (int i = 0; i < row.length; i++) {
            due("number " + i, x.write(s, i, row[i]), row[i]);
        }
    }

    private static void copy() {
        says("copy: n numbers of a sheet from one on come to another one from one on (as they all were): n.");
        WrapGifts x = threeSheets();
        due("as many as there are room for", x.copy(0, 2, 1, 0, 3), 3);
        rowIs(x, 1, 3, 4, 5);
        due("all upon itself", x.copy(0, 0, 0, 0, 5), 5);
        rowIs(x, 0, 1, 2, 3, 4, 5);
        due("upwards", x.copy(0, 0, 0, 1, 4), 4);
        rowIs(x, 0, 1, 1, 2, 3, 4);
        due("downwards", x.copy(0, 1, 0, 0, 4), 4);
        rowIs(x, 0, 1, 2, 3, 4, 4);
        due("none", x.copy(0, 0, 1, 0, 0), 0);
        due("none, at the ends", x.copy(0, 5, 1, 3, 0), 0);
        rowIs(x, 1, 3, 4, 5);
        says("copy: BEYOND: no such sheet (either).");
        for (int s : outside(0, 3)) {
            refused(BEYOND, BoundaryTest::threeSheets, y -> y.copy(s, 0, 0, 0, 1));
            refused(BEYOND, BoundaryTest::threeSheets, y -> y.copy(0, 0, s, 0, 1));
            refused(BEYOND, BoundaryTest::threeSheets, y -> y.copy(s, 0, 3, 0, 1));
            refused(BEYOND, BoundaryTest::threeSheets, y -> y.copy(3, 0, s, 0, 1));
        }
        says("copy: MISSING: one is.");
        refused(MISSING, BoundaryTest::threeSheets, y -> y.copy(3, 0, 0, 0, 1));
        refused(MISSING, BoundaryTest::threeSheets, y -> y.copy(0, 0, 3, 0, 1));
        refused(MISSING, BoundaryTest::threeSheets, y -> y.copy(3, 0, 3, 0, 0));
        refused(MISSING, BoundaryTest::threeSheets, y -> y.copy(3, -1, 2, -1, -1));
        says("copy: KIND: they are not of as many bits.");
        refused(KIND, BoundaryTest::threeSheets, y -> y.copy(0, 0, 2, 0, 1));
        refused(KIND, BoundaryTest::threeSheets, y -> y.copy(2, 0, 0, 0, 0));
        refused(KIND, BoundaryTest::threeSheets, y -> y.copy(2, -1, 0, 9, MAX));
        refused(KIND, BoundaryTest::busy, y -> y.copy(1, 0, 2, 0, 0));
        says("copy: BEYOND: one has not so many, or from, to or n is below 0.");
        refused(BEYOND, BoundaryTest::threeSheets, y -> y.copy(0, 3, 1, 0, 3));
        refused(BEYOND, BoundaryTest::threeSheets, y -> y.copy(0, 0, 1, 1, 3));
        refused(BEYOND, BoundaryTest::threeSheets, y -> y.copy(0, 0, 1, 0, 4));
        refused(BEYOND, BoundaryTest::threeSheets, y -> y.copy(1, 0, 0, 0, 4));
        refused(BEYOND, BoundaryTest::threeSheets, y -> y.copy(0, 6, 1, 0, 0));
        refused(BEYOND, BoundaryTest::threeSheets, y -> y.copy(0, 0, 1, 4, 0));
        for (int below : new int[] {-1, MIN}) {
            refused(BEYOND, BoundaryTest::threeSheets, y -> y.copy(0, below, 1, 0, 1));
            refused(BEYOND, BoundaryTest::threeSheets, y -> y.copy(0, 0, 1, below, 1));
            refused(BEYOND, BoundaryTest::threeSheets, y -> y.copy(0, 0, 1, 0, below));
            refused(BEYOND, BoundaryTest::threeSheets, y -> y.copy(0, 2, 1, 2, below));
        }
        // from and n together wrap around.
        refused(BEYOND, BoundaryTest::threeSheets, y -> y.copy(0, MAX, 1, 0, 1));
        refused(BEYOND, BoundaryTest::threeSheets, y -> y.copy(0, 0, 1, MAX, 1));
        refused(BEYOND, BoundaryTest::threeSheets, y -> y.copy(0, 1, 1, 1, MAX));
        refused(BEYOND, BoundaryTest::threeSheets, y -> y.copy(0, MAX, 1, MAX, MAX));
    }

    /** With an aunt who has a present in brown; the numbers are on sheet 0. */
    private static WrapGifts sheetOf(int bits, long... numbers) {
        WrapGifts x = alone(AUNT, 5, BROWN);
        x.sheet(0, bits, numbers.length);
        for (int i = 0; i < numbers.length; i++) {
            x.write(0, i, numbers[i]);
        }
        return x;
    }

    private static void laysAs(WrapGifts x, int n, int papers) {
        due("lays", x.lays(0, 0), n);
        due("papers", papers(x, 0), papers);
    }

    private static void lays() {
        says("lays: up to the first that isn't 0 to 3, 6 at most: how many.");
        laysAs(sheetOf(8), 0, 0);
        laysAs(sheetOf(8, 3), 1, 4);
        laysAs(sheetOf(8, 0, 3), 2, 14);
        laysAs(sheetOf(8, 4, 1), 0, 0);
        laysAs(sheetOf(8, -1, 1), 0, 0);
        laysAs(sheetOf(8, 2, 4, 1), 1, 3);
        laysAs(sheetOf(8, 2, 255, 1), 1, 3);
        laysAs(sheetOf(8, 256, 1, 259), 3, 124);
        laysAs(sheetOf(16, 2, 256, 1), 1, 3);
        laysAs(sheetOf(64, 2, 1L << 32, 1), 1, 3);
        laysAs(sheetOf(64, 2, Long.MIN_VALUE, 1), 1, 3);
        laysAs(sheetOf(64, 2, (1L << 32) + 1, 1), 1, 3);
        laysAs(sheetOf(8, 0, 1, 2, 3, 0, 1), 6, 123412);
        laysAs(sheetOf(8, 0, 1, 2, 3, 0, 1, 2), 6, 123412);
        laysAs(sheetOf(8, 0, 1, 2, 3, 0, 9, 2), 5, 12341);
        says("lays: BEYOND: no such sheet.");
        for (int s : outside(0, 3)) {
            refused(BEYOND, BoundaryTest::busy, x -> x.lays(s, 1));
        }
        says("lays: MISSING.");
        refused(MISSING, BoundaryTest::busy, x -> x.lays(3, 1));
        refused(MISSING, BoundaryTest::busy, x -> x.lays(3, 3));
        refused(MISSING, BoundaryTest::busy, x -> x.lays(3, 0));
        says("lays: BEYOND: present.");
        for (int present : outside(0, 2)) {
            refused(BEYOND, BoundaryTest::busy, x -> x.lays(0, present));
        }
        says("lays: STATE: it is FOUND.");
        refused(STATE, BoundaryTest::busy, x -> x.lays(0, 0));
        refused(STATE, BoundaryTest::busy, x -> x.lays(2, 0));
    }

    private static void book() {
        says("book: JOY of one ON 0, 1, 2, .. DAYS comes to a sheet, as many as it has numbers: how many.");
        WrapGifts x = alone(MAN, 99, NEWS, MARBLED);
        x.joy(0, 1);
        x.sheet(0, 8, 0);
        due("none", x.book(0, 0), 0);
        x.sheet(0, 8, 1);
        due("one", x.book(0, 0), 1);
        rowIs(x, 0, 1);
        x.sheet(0, 8, 4);
        due("four", x.book(0, 0), 4);
        rowIs(x, 0, 1, 5, 105, 105);
        x.joy(0, 60);
        x.book(0, 0);
        rowIs(x, 0, 60, 64, 164 - 256, 164 - 256);
        WrapGifts y = slow();
        y.days(21);
        y.sheet(0, 64, 40);
        due("forty", y.book(0, 0), 40);
        // On day 21 three are found; the next on days 30, 40, 50 and 60, which is the 40th day: not told any more.
        rowIs(y, 0, 3, 3, 3, 3, 3, 3, 3, 3, 3, 3, 4, 4, 4, 4, 4, 4, 4, 4, 4, 4, 5, 5, 5, 5, 5, 5, 5, 5, 5, 5, 6, 6, 6, 6, 6, 6, 6,
            6, 6, 6);
        due("it would be", y.joyOn(0, 40), 56);
        says("book: BEYOND: no such sheet.");
        for (int s : outside(0, 3)) {
            refused(BEYOND, BoundaryTest::busy, z -> z.book(s, 0));
        }
        says("book: MISSING.");
        refused(MISSING, BoundaryTest::busy, z -> z.book(3, 0));
        refused(MISSING, BoundaryTest::busy, z -> z.book(3, 3));
        says("book: BEYOND: person.");
        for (int person : outside(0, 2)) {
            refused(BEYOND, BoundaryTest::busy, z -> z.book(0, person));
        }
        refused(BEYOND, BoundaryTest::busy, z -> z.book(2, 3));
    }

    private static WrapGifts readerOf(int kind, int bits, long... numbers) {
        WrapGifts x = alone(kind, 50);
        x.sheet(0, bits, numbers.length);
        for (int i = 0; i < numbers.length; i++) {
            x.write(0, i, numbers[i]);
        }
        return x;
    }

    private static void read() {
        says("read: how many pairs of a KIND of it and a THING (0 to 99) in a PRESENT make it just so.");
        due("no number: all", readerOf(MAN, 8).read(0, 0, 0), 600);
        due("no number: all, with joy too", busy().read(2, 0, 1), 600);
        due("now: all", readerOf(MAN, 8, 0).read(0, 0, 0), 600);
        due("now: none", readerOf(MAN, 8, 1).read(0, 0, 0), 0);
        // 5: a man, a poor one of 5; an aunt, a clerk of air; a clerk of 10 or 11; never a child or a girl.
        due("5", readerOf(MAN, 8, 0, 5).read(0, 0, 0), 6);
        due("and 5", readerOf(CHILD, 16, 0, 5, 5, 5).read(0, 0, 0), 6);
        due("and 6", readerOf(CHILD, 16, 0, 5, 5, 6).read(0, 0, 0), 0);
        WrapGifts slowly = alone(MAN, 50, NEWS, BROWN, TISSUE);
        slowly.sheet(0, 16, 5);
        slowly.book(0, 0);
        // 0, 3, 5, 56, 56: a man alone takes off one a day, and is struck by 50; a poor one is struck by 45.
        due("day by day", slowly.read(0, 0, 0), 1 + 1);
        slowly.write(0, 4, 57L);
        due("not so on the last", slowly.read(0, 0, 0), 0);
        // 0: a man, a child, a poor one of air; an aunt of 1 to 99; a clerk of 1.
        due("0", readerOf(GIRL, 64, 0, 0).read(0, 0, 0), 3 + 99 + 1);
        // 198: a child of 99; a girl of 94.
        due("198", readerOf(GIRL, 64, 0, 198).read(0, 0, 0), 2);
        due("208: a girl of 99", readerOf(GIRL, 64, 0, 208).read(0, 0, 0), 1);
        due("209: nobody", readerOf(GIRL, 64, 0, 209).read(0, 0, 0), 0);
        due("not its lowest bits alone", readerOf(GIRL, 64, 0, 5 + (1L << 32)).read(0, 0, 0), 0);
        due("208 isn't of 8 bits", readerOf(GIRL, 8, 0, 208).read(0, 0, 0), 0);
        due("not one that is found", busyRead(), 600);
        says("read: BEYOND: no such sheet.");
        for (int s : outside(0, 3)) {
            refused(BEYOND, BoundaryTest::busy, x -> x.read(s, 0, 1));
        }
        says("read: MISSING.");
        refused(MISSING, BoundaryTest::busy, x -> x.read(3, 0, 1));
        refused(MISSING, BoundaryTest::busy, x -> x.read(3, 3, 3));
        says("read: BEYOND: person, present.");
        for (int out : outside(0, 2)) {
            refused(BEYOND, BoundaryTest::busy, x -> x.read(0, out, 1));
            refused(BEYOND, BoundaryTest::busy, x -> x.read(0, 0, out));
            refused(BEYOND, BoundaryTest::busy, x -> x.read(2, out, 1));
            refused(BEYOND, BoundaryTest::busy, x -> x.read(2, 0, out));
        }
    }

    /** The child's present is found: neither kind nor thing tells any more. */
    private static int busyRead() {
        WrapGifts x = busy();
        x.sheet(0, 16, 40);
        x.book(0, 2);
        return x.read(0, 2, 0);
    }

    // ---- images

    private static void images() {
        says("image: All that section 1 tells (THE TAPE not) is kept: 1.");
        WrapGifts x = busy();
        List<Long> before = new ArrayList<>();
        seeTown(x, before);
        due("image", x.image(), 1);
        due("again", x.image(), 1);
        x.days(7);
        x.person(GIRL);
        x.joy(1, 55);
        x.turn(0, POOR);
        x.set(0, 1, 99);
        x.set(1, 2, 2);
        x.unwrap(2);
        x.wrap(2, BROWN);
        x.wrap(2, NEWS);
        gift(x, 3, 1, NEWS);
        x.feed(';', 1);
        x.write(0, 0, 99L);
        x.now(9);
        due("undo", x.undo(), 3);
        List<Long> after = new ArrayList<>();
        seeTown(x, after);
        due("all is as it was", after.equals(before) ? 1 : 0, 1);
        due("but the tape", x.count(2), 5);
        due("and the sheets", x.write(0, 0, 0L), 99);

        says("undo: It becomes what was kept latest (which stays): how many PEOPLE.");
        x.days(3);
        due("again", x.undo(), 3);
        List<Long> twice = new ArrayList<>();
        seeTown(x, twice);
        due("all is as it was again", twice.equals(before) ? 1 : 0, 1);
        x.person(CLERK);
        x.image();
        x.person(CLERK);
        due("the latest", x.undo(), 4);
        WrapGifts nobody = new WrapGifts();
        nobody.image();
        nobody.person(MAN);
        due("nobody", nobody.undo(), 0);
        due("nobody is there", nobody.happiest(0), NONE);

        says("undo: NONE: nothing is kept.");
        refused(NONE, WrapGifts::new, y -> y.undo());
        refused(NONE, () -> folk(MAN, AUNT), y -> y.undo());
        refused(NONE, BoundaryTest::torn, y -> y.undo());

        says("tear: Nothing is kept: 1 if something was, else 0.");
        due("nothing was", new WrapGifts().tear(), 0);
        due("something was", busy().tear(), 1);
        due("not any more", torn().tear(), 0);
        due("all else stays", torn().of(0, 1), 7);
        WrapGifts anew = torn();
        anew.image();
        due("kept anew", anew.tear(), 1);
        due("no finding", anew.status(-1), 1);
    }

    private static WrapGifts torn() {
        WrapGifts x = busy();
        x.tear();
        return x;
    }

    private static void countStatus() {
        says("count: BEYOND: another what.");
        for (int what : outside(0, 3)) {
            refused(BEYOND, BoundaryTest::busy, x -> x.count(what));
        }
        WrapGifts x = busy();
        int[] counts = {3, 3, 4, 1};
        for (int what = 0; what <= 3; what++) {
            due("count " + what, x.count(what), counts[what]);
        }

        says("status: How many acts answered a finding ever (undo() takes none back)");
        due("of(9, 9)", x.status(-1), 1);
        x.image();
        x.now(9);
        x.undo();
        due("undo takes none back", x.status(-1), 2);
        due("status itself answered none", x.status(0), 2);

        says("status: BEYOND (counted from then on): another one.");
        for (int which : outside(-1, 6)) {
            refused(BEYOND, BoundaryTest::busy, y -> y.status(which));
        }
        WrapGifts y = new WrapGifts();
        due("above", y.status(7), BEYOND);
        due("counted", y.status(0), 1);
        due("below", y.status(-2), BEYOND);
        due("counted, too", y.status(0), 2);
        due("in all", y.status(-1), 2);
        for (int which = 1; which <= 6; which++) {
            due("none of " + which, y.status(which), 0);
        }
    }
}
