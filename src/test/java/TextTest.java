/** Promises 1 to 5: a new object, the TAPE, FAULTS and texts. */
public final class TextTest {
    private static final Check CHECK = new Check();

    public static void main(String[] args) {
        newObject();
        feeding();
        ending();
        cityFaults();
        cityWholes();
        lawFaults();
        lawNesting();
        takingCities();
        cityAfterCity();
        takingLaws();
        longTexts();
        CHECK.end();
    }

    private static void newObject() {
        NameWall wall = new NameWall();
        int[] counts = {0, 0, 0, 0, -1, 0, 0, 0, 0, 0, 0, 0, 0, 0, 0};
        for (int what = 0; what < counts.length; what++) {
            CHECK.due("P1 count " + what, wall.count(what), counts[what]);
        }
        CHECK.due("P1 no CITY", wall.square(0), NameWall.NONE);
        CHECK.due("P1 no NAME", wall.friends(0), NameWall.NONE);
        CHECK.due("P1 no ACT", wall.undo(), NameWall.NONE);
        CHECK.noSuch("P1 name", wall, 0, 0);
    }

    private static void feeding() {
        NameWall wall = new NameWall();
        CHECK.due("P2 zeros", wall.feed(0, 0, 0, 0, 0), 0);
        CHECK.due("P2 highest first", wall.feed('y' << 24 | ':' << 16 | '4' << 8 | '2', 0, 0, 0, 0), 4);
        CHECK.due("P2 highest first reads", wall.fault(1), NameWall.NONE);
        CHECK.due("P2 zeros between", wall.feed('+', 0, 'd' << 16, 0, 0), 6);
        CHECK.due("P2 zeros between read", wall.fault(1), NameWall.NONE);
        CHECK.due("P2 all bits are four bytes", wall.feed(-1, 0, 0, 0, 0), 10);
        CHECK.due("P2 byte 255 is a wrong one", wall.fault(1), 6);
        NameWall full = new NameWall();
        for (int i = 1; i <= 11; i++) {
            CHECK.due("P2 twenty more", full.feed(-1, -1, -1, -1, -1), 20 * i);
        }
        CHECK.due("P2 one more", full.feed(7, 0, 0, 0, 0), 221);
        CHECK.due("P2 241 are refused", full.feed(-1, -1, -1, -1, -1), NameWall.NONE);
        CHECK.due("P2 refused changes nothing", full.count(3), 221);
        CHECK.due("P2 up to 240", full.feed(-1, -1, -1, -1, 0xffffff), 240);
        CHECK.due("P2 nothing more", full.feed(0, 0, 0, 0, 0), 240);
        CHECK.due("P2 one too many", full.feed(0, 0, 0, 0, 1), NameWall.NONE);
    }

    private static void ending() {
        NameWall wall = new NameWall();
        Check.put(wall, "n;n;nx");
        CHECK.due("P3 below", wall.end(-1), false);
        CHECK.due("P3 above", wall.end(7), false);
        CHECK.due("P3 refused changes nothing", wall.count(3), 6);
        CHECK.due("P3 all", wall.end(6), true);
        CHECK.due("P3 first ones", wall.end(3), true);
        CHECK.due("P3 length", wall.count(3), 3);
        CHECK.due("P3 they read", wall.fault(0), NameWall.NONE);
        CHECK.due("P3 gone ones do not come again", wall.end(4), false);
        CHECK.due("P3 none", wall.end(0), true);
        CHECK.due("P3 none are left", wall.count(3), 0);
    }

    private static void city(String text, int fault) {
        CHECK.due("P4 CITY '" + text + "'", Check.faultOf(text, 0), fault);
    }

    private static void law(String text, int fault) {
        CHECK.due("P4 LAW '" + text + "'", Check.faultOf(text, 1), fault);
    }

    private static void cityFaults() {
        CHECK.due("P4 no sort", Check.faultOf("n;n", -1), -2);
        CHECK.due("P4 no sort", Check.faultOf("n;n", 2), -2);
        String[] bounds = {"sr09", "sc199", "sh16", "sd14", "nv09", "nk03", "ng04", "np099", "nw09", "ni199"};
        for (String bound : bounds) {
            boundsOf(bound);
        }
        city("ta7b8;n;n", 4);
        city("ta8;n;n", 2);
        city("n;n;nv123", 8);
        city("n;n;nv999", 8);
        city("n;n;nh1", 5);
        city("n;n;sv1", 5);
        city("n;n;tc1", 5);
        city("n;n;nv1k1v1", 9);
        city("n;n;nv", 6);
        city("n;n;nv;", 6);
        city("n;n;nv 1 2", 9);
        city("n;n;n v 1 ; ", 12);
        city("n;n;s;s", 6);
        city("s;n;n;s", 6);
        city("n;n;n;n;n;n;n;n", -1);
        city("n;n;n;n;n;n;n;n ; n", 18);
        city("n;n;t;t;t;t;t;t;t;t;t;t", -1);
        city("n;n;t;t;t;t;t;t;t;t;t;t;t", 24);
        city(";n;n", 0);
        city("n;;n", 2);
        city("n n", 2);
        city("n;n\u00e9", 3);
        city("N;n", 0);
    }

    /** A letter with its least and greatest number: both are right, one less and one more are wrong at the last digit. */
    private static void boundsOf(String bound) {
        String letters = bound.substring(0, 2);
        int low = Integer.parseInt(bound.substring(2, 3));
        int high = Integer.parseInt(bound.substring(3));
        String deep = letters.charAt(0) == 's' ? "" : ";sc99";
        city("ni1;ni1;" + letters + low + deep, -1);
        city("ni1;ni1;" + letters + high + deep, -1);
        city("ni1;ni1;" + letters + "0" + low, -1);
        if (low == 1) {
            city("n;n;" + letters + "0;t", 6);
            city("n;n;" + letters + "00;t", 7);
        }
        String more = "" + (high + 1);
        city("n;n;" + letters + more + ";t", 5 + more.length());
        city("n;n;" + letters + "000", 8);
    }

    private static void cityWholes() {
        city("", 0);
        city("  ", 2);
        city("n", 1);
        city("n;", 2);
        city("n;n", -1);
        city("n;t", 3);
        city("s;t", 3);
        city(" n ; n ", -1);
        city("ni41;n", 6);
        city("sc41;ni41;n", -1);
        city("ni41;n;sc41", -1);
        city("n;n;sc19", 8);
        city("n;n;sc20", -1);
        city("n;n;ni9;sc8 ", 12);
        city("n;n;tb2", 7);
        city("n;n;tb2;n", -1);
        city("tb2;n;n;n", -1);
        city("ta2;n;n;n", -1);
        city("ta2;n;n", 7);
        city("n;n;ta1", 7);
        city("n;n;tb0", 7);
        city("n;n;ta1b0", -1);
        city("n;n;ta0b1", -1);
        city("n;n;t;t", -1);
    }

    private static void lawFaults() {
        String[] right = {"y:0", "y:9999", " y : d ", "y:d+k-r*y/s+p", "y:[d]", "y:d=1?2", "y:d<1?2", "y:d>1?2",
            "y:!d>1?2", "y:(d>1)?2", "y:d>1&k=0|r<2?5;y:1", "y:(!(d>1)|!!k=1)&[r+1]*2>3?[4]", "y:y"};
        for (String text : right) {
            law(text, -1);
        }
        law("", 0);
        law("x", 0);
        law("y", 1);
        law("y d", 2);
        law("y:", 2);
        law("y: ", 3);
        law("y:12345", 6);
        law("y:1 2", 4);
        law("y:d5", 3);
        law("y:5d", 3);
        law("y:v", 2);
        law("y:d+", 4);
        law("y:d+;y:1", 4);
        law("y:-1", 2);
        law("y:[d", 4);
        law("y:[d;", 4);
        law("y:[d)", 4);
        law("y:[]", 3);
        law("y:[d=1]?2", 4);
        law("y:d?1", 3);
        law("y:d&k=1?1", 3);
        law("y:d=1", 5);
        law("y:d=1;y:2", 5);
        law("y:d=1=2?1", 5);
        law("y:d=1?", 6);
        law("y:d=1?!d", 6);
        law("y:d=1?(d)", 6);
        law("y:d=1?k=2", 7);
        law("y:d=1?k?2", 7);
        law("y:d==1?2", 4);
        law("y:(d)?1", 4);
        law("y:(d=1?2", 6);
        law("y:(d=1)", 7);
        law("y:(d=1)+1", 7);
        law("y:(d=1)k", 7);
        law("y:!d", 4);
        law("y:!?", 3);
        law("y:d=1&", 6);
        law("y:d=1&|", 6);
        law("y:d=1|&", 6);
        law("y:d;", 4);
        law("y:d;;", 4);
        law("y:d;x", 4);
        law("y:d;y", 5);
        law("y:d\u00ff", 3);
    }

    private static void lawNesting() {
        law("y:[[[[[[d]]]]]]", -1);
        law("y:[[[[[[[d", 8);
        law("y:[[[[[[d]]]]]]=1?2", -1);
        law("y:d=[[[[[[d]]]]]]?2", -1);
        law("y:!!!!!!d=1?2", -1);
        law("y:!!!!!!!d=1?2", 8);
        law("y:((((((d=1))))))?2", -1);
        law("y:(((((((d=1", 8);
        law("y:!(!(!([d]=1)))?2", 8);
        law("y:!(!(![d]=1))?2", -1);
        law("y:!(!(!(d=1)))?[[[[[[d]]]]]]", -1);
        law("y:!!!!!!d=1&[[[[[[d]]]]]]=1?2", -1);
        law("y:!!!!!!d=[1]?2", 10);
        law("y:[d]+[[[[[[k]]]]]]*[r]", -1);
    }

    private static void takingCities() {
        NameWall wall = new NameWall();
        CHECK.due("P5 no TEXT", wall.text(0), NameWall.NONE);
        Check.put(wall, "n;n;n");
        CHECK.due("P5 no sort", wall.text(2), NameWall.NONE);
        CHECK.due("P5 no sort", wall.text(-1), NameWall.NONE);
        CHECK.due("P5 not a LAW", wall.text(1), NameWall.NONE);
        CHECK.due("P5 the TAPE stays then", wall.count(3), 5);
        CHECK.due("P5 how many NAMES", wall.text(0), 3);
        CHECK.due("P5 the TAPE is empty", wall.count(3), 0);
        CHECK.due("P5 no LIKE ones", wall.helped(), 0);
        leaveTraces(wall);
        Check.put(wall, "n;nx");
        CHECK.due("P5 a FAULT", wall.text(0), NameWall.NONE);
        CHECK.due("P5 refused changes nothing", wall.count(0), 3);
        CHECK.due("P5 refused changes no DAY", wall.count(5), 2);
        wall.end(3);
        CHECK.due("P5 another CITY", wall.text(0), 2);
        int[] counts = {2, 0, 1, 0, 0, 0, 0, 3, 0, 0, 7, 8, 0, 0, 0};
        for (int what = 0; what < counts.length; what++) {
            CHECK.due("P5 another CITY: count " + what, wall.count(what), counts[what]);
        }
        CHECK.due("P5 no IMAGE of another CITY", wall.back(), NameWall.NONE);
        CHECK.due("P5 no ACT of another CITY", wall.undo(), NameWall.NONE);
        CHECK.due("P5 nobody of it SHOUTED", wall.name(0, 6), NameWall.NONE);
        CHECK.due("P5 nobody of it is HOARSE", wall.name(1, 8), 0);
        CHECK.due("P5 PENCE of the new one", wall.name(0, 3), 5);
        CHECK.due("P5 TIES of the new one", wall.tied(0, 1), 0);
    }

    private static void leaveTraces(NameWall wall) {
        Check.lawful(wall, "y:1");
        wall.fogs(7);
        wall.colds(8);
        wall.dent(0, 0, true);
        wall.evening(2);
        wall.image();
        wall.shout(0, 1, 0);
        wall.hoarse(1);
        wall.fog(true);
    }

    private static void cityAfterCity() {
        NameWall wall = Check.city("sr9c9h1d1;ni1g1w0;ni1g1w0;ni1w0;t;tb2");
        Check.put(wall, "nw0;n;n");
        CHECK.due("P5 fewer of all", wall.text(0), 3);
        CHECK.due("P5 no SQUARE told: RAIN", wall.square(0), 2);
        CHECK.due("P5 no TIES", wall.count(1), 0);
        CHECK.due("P5 no FRIENDS", wall.friends(0), 0);
        wall.shout(0, 1, 3);
        CHECK.due("P5 nobody is LIKE", wall.helped(), 2);
        Check.put(wall, "s;n;n");
        CHECK.due("P5 a SQUARE again", wall.text(0), 2);
        CHECK.due("P5 nobody has SHOUTED", wall.count(8), 0);
        CHECK.noSuch("P5 a third NAME", wall, 2, 0);
    }

    private static void longTexts() {
        String first = "y:" + "d+".repeat(113) + "0=0?1;y:2*3";
        CHECK.due("P5 length", first.length(), 239);
        NameWall wall = Check.city("n;n", first);
        CHECK.due("P5 a long LAW", wall.name(0, 9), 6);
        String second = "y:42" + "-1+1".repeat(59);
        CHECK.due("P5 length", second.length(), 240);
        Check.lawful(wall, second);
        CHECK.due("P5 the longest LAW", wall.name(0, 9), 42);
        Check.lawful(wall, "y:[[[[[[k]]]]]]+" + "0+".repeat(110) + "7");
        CHECK.due("P5 a long SUM", wall.name(0, 9), 7);
        String city = "n" + " ".repeat(236) + ";n ";
        CHECK.due("P5 length", city.length(), 240);
        Check.put(wall, city);
        CHECK.due("P5 a long CITY", wall.text(0), 2);
    }

    private static void takingLaws() {
        NameWall wall = new NameWall();
        for (int law = 0; law < 4; law++) {
            Check.put(wall, "y:" + law);
            CHECK.due("P5 a LAW's number", wall.text(1), law);
            CHECK.due("P5 the TAPE is empty", wall.count(3), 0);
        }
        CHECK.due("P5 LAWS", wall.count(2), 4);
        CHECK.due("P5 none of them holds", wall.count(4), NameWall.NONE);
        Check.put(wall, "y:4");
        CHECK.due("P5 no FAULT", wall.fault(1), NameWall.NONE);
        CHECK.due("P5 but four LAWS", wall.text(1), NameWall.NONE);
        CHECK.due("P5 the TAPE stays then", wall.count(3), 3);
        wall.end(0);
        Check.put(wall, "n;n");
        wall.text(0);
        for (int law = 0; law < 4; law++) {
            wall.law(law);
            CHECK.due("P5 each LAW is its own", wall.name(0, 9), law);
        }
    }
}
