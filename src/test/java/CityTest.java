/** Promises 6, 7, 9, 38 and 43: what is told of the SQUARE, of NAMES, of TIES, and the counts. */
public final class CityTest {
    private static final Check CHECK = new Check();

    public static void main(String[] args) {
        square();
        given();
        changing();
        worths();
        clauses();
        bounds();
        ties();
        counts();
        CHECK.end();
    }

    private static void square() {
        NameWall plain = Check.city("n;n");
        int[] without = {2, 40, 4, 2};
        NameWall told = Check.city("n;sd4h6r9c99;n");
        int[] as = {9, 99, 6, 4};
        for (int what = 0; what < 4; what++) {
            CHECK.due("P6 without " + what, plain.square(what), without[what]);
            CHECK.due("P6 told " + what, told.square(what), as[what]);
            CHECK.due("P6 no CITY", new NameWall().square(what), NameWall.NONE);
        }
        CHECK.due("P6 no such", plain.square(-1), NameWall.NONE);
        CHECK.due("P6 no such", plain.square(4), NameWall.NONE);
        NameWall again = Check.city("sr9c99h6d4;n;n");
        Check.put(again, "n;n");
        again.text(0);
        CHECK.due("P6 another CITY has its own", again.square(1), 40);
    }

    private static void given() {
        NameWall wall = Check.city("n;sc99;nv9k3g4p99w8i77;n v 0 i 1");
        int[][] due = {{3, 0, 0, 5, 1, 20}, {9, 3, 4, 99, 8, 77}, {0, 0, 0, 5, 1, 1}};
        for (int name = 0; name < 3; name++) {
            for (int what = 0; what < 6; what++) {
                CHECK.due("P7 name " + name + " " + what, wall.name(name, what), due[name][what]);
            }
            CHECK.due("P7 whom", wall.name(name, 6), NameWall.NONE);
            CHECK.due("P7 hour", wall.name(name, 7), NameWall.NONE);
            CHECK.due("P7 hoarse", wall.name(name, 8), 0);
            CHECK.due("P7 gets", wall.name(name, 10), 0);
        }
        CHECK.due("P7 LOSS", wall.name(0, 9), 2);
        CHECK.due("P7 LOSS of a KIND", wall.name(1, 9), 5);
        CHECK.noSuch("P7 name 3", wall, 3, 0);
        CHECK.noSuch("P7 name -1", wall, -1, 0);
        CHECK.noSuch("P7 what -1", wall, 0, -1);
        CHECK.noSuch("P7 what 11", wall, 0, 11);
        CHECK.noSuch("P7 name 8", wall, 8, 5);
    }

    private static void changing() {
        // 0 and 1 are LIKE; 2 SHOUTS 1 and is paid 3.
        NameWall wall = Check.city("ni2g1;nv1g1p3;nv4w3");
        wall.shout(2, 1, 3);
        CHECK.due("P7 PENCE of who pays", wall.name(1, 3), 0);
        CHECK.due("P7 PENCE of who is paid", wall.name(2, 3), 8);
        CHECK.due("P7 whom", wall.name(2, 6), 1);
        CHECK.due("P7 hour", wall.name(2, 7), 3);
        CHECK.due("P7 gets a VOICE", wall.name(1, 10), 4);
        CHECK.due("P7 gets of a LIKE one", wall.name(0, 10), 1);
        CHECK.due("P7 who SHOUTS gets nothing", wall.name(2, 10), 0);
        wall.hoarse(2);
        CHECK.due("P7 HOARSE", wall.name(2, 8), 1);
        CHECK.due("P7 a HOARSE VOICE is 0", wall.name(1, 10), 0);
        CHECK.due("P7 but it is HEARD", wall.name(0, 10), 1);
        CHECK.due("P7 VOICE stays told", wall.name(2, 0), 4);
        wall.fog(true);
        CHECK.due("P7 FOG", wall.name(0, 10), 0);
        wall.evening(1);
        CHECK.due("P7 DEPTH", wall.name(0, 5), 0);
        CHECK.due("P7 DEPTH", wall.name(1, 5), 18);
        CHECK.due("P7 nobody has SHOUTED", wall.name(2, 6), NameWall.NONE);
        CHECK.due("P7 in no HOUR", wall.name(2, 7), NameWall.NONE);
        CHECK.due("P7 nobody is HOARSE", wall.name(2, 8), 0);
        wall.shout(2, 1, 0);
        CHECK.due("P7 too dear", wall.count(8), 0);
        wall.shout(1, 2, 0);
        CHECK.due("P7 a GONE one gets nothing", wall.name(0, 10), 0);
        Check.lawful(wall, "y:d=0?33;y:d");
        CHECK.due("P7 LOSS of a GONE one by DEPTH 0", wall.name(0, 9), 33);
    }

    private static void worth(String law, int worth) {
        // d 20, k 2, r 7, y 0, s 0, p 6
        NameWall wall = Check.city("sr7;nk2p6;n", law);
        CHECK.due("P7 WORTH of " + law, wall.name(0, 9), worth);
    }

    private static void worths() {
        worth("y:d", 20);
        worth("y:k", 2);
        worth("y:r", 7);
        worth("y:y", 0);
        worth("y:s", 0);
        worth("y:p", 6);
        worth("y:d-r-k", 11);
        worth("y:d-[r-k]", 15);
        worth("y:d-r*k", 6);
        worth("y:[d-r]*k", 26);
        worth("y:d/k*r", 70);
        worth("y:d/k/r", 1);
        worth("y:99+d", 99);
        worth("y:k-d", 0);
        worth("y:[k-d]/7+9", 7);
        worth("y:d/[k-2]+5", 5);
        worth("y:[0-d]/0+5", 5);
        worth("y:r=7?11", 11);
        worth("y:r=6?11", 0);
        worth("y:r<7?11;y:r>6?12;y:13", 12);
        worth("y:r>7?11;y:r<7?12;y:13", 13);
        worth("y:!r=7?11;y:12", 12);
        worth("y:!!r=7?11;y:12", 11);
        worth("y:r<8?11;y:12", 11);
        worth("y:r<7?11;y:12", 12);
        worth("y:r>6?11;y:12", 11);
        worth("y:r>7?11;y:12", 12);
        worth("y:r>6&k=2&r<8?11;y:12", 11);
        worth("y:!r>6|!r<8|k=2&d>r?11;y:12", 11);
        worth("y:r=7&k=3?11;y:12", 12);
        worth("y:r=7|k=3?11;y:12", 11);
        worth("y:r=7|k=2&d=0?11;y:12", 11);
        worth("y:(r=7|k=2)&d=0?11;y:12", 12);
        worth("y:!r=7|k=2?11;y:12", 11);
        worth("y:!(r=7|k=3)?11;y:12", 12);
        worth("y:1;y:2", 1);
        worth("y:p+1=r&d/k*2=d?[[p]]", 6);
        // Behind each sign numbers are within bounds: what goes beyond is lost at once.
        worth("y:9999*9999/5000/4", 50);
        worth("y:9999*9999-9999*100-50", 50);
        worth("y:9999*9999+9999*9999-9999*100-50", 50);
        worth("y:[0-9999]*9999+9999*100+150", 50);
        worth("y:9999*9999*[0-9999]/5000+250", 50);
        worth("y:0-9999*9999-9999*9999+9999*100+150", 50);
    }

    private static void clauses() {
        // s is how many SHOUTS of it are HEARD, p the PENCE of now, y the DAY.
        NameWall wall = Check.city("nw0;nw0;np9", "y:10*s+p+y");
        CHECK.due("P7 LOSS unshouted", wall.name(2, 9), 9);
        wall.shout(0, 2, 0);
        CHECK.due("P7 LOSS shouted", wall.name(2, 9), 19);
        wall.shout(1, 2, 1);
        CHECK.due("P7 LOSS shouted twice", wall.name(2, 9), 29);
        wall.fog(true);
        CHECK.due("P7 LOSS in FOG", wall.name(2, 9), 9);
        wall.law(-1);
        CHECK.due("P7 LOSS by no LAW", wall.name(2, 9), 2);
        wall.evening(3);
        wall.law(0);
        CHECK.due("P7 LOSS by the DAY", wall.name(2, 9), 12);
        NameWall paid = Check.city("nw4;n", "y:p");
        paid.shout(0, 1, 0);
        CHECK.due("P7 LOSS by PENCE got", paid.name(0, 9), 9);
        CHECK.due("P7 LOSS by PENCE paid", paid.name(1, 9), 1);
    }

    private static void bounds() {
        CHECK.due("P7 LOSS is no more than 99", Check.city("n;n", "y:d*d").name(0, 9), 99);
        CHECK.due("P7 LOSS is no less than 0", Check.city("n;n", "y:0-d").name(0, 9), 0);
        CHECK.due("P7 LOSS by no law", Check.city("sr9;nk3;n").name(0, 9), 12);
    }

    private static void ties() {
        NameWall wall = Check.city("n;n;n;tb2;ta2b0;t");
        CHECK.due("P9 tied", wall.tied(0, 2), 1);
        CHECK.due("P9 tied the other way", wall.tied(2, 0), 1);
        CHECK.due("P9 a 0, b 1 without", wall.tied(1, 0), 1);
        CHECK.due("P9 not tied", wall.tied(1, 2), 0);
        CHECK.due("P9 with itself", wall.tied(1, 1), 0);
        CHECK.due("P9 no such one", wall.tied(3, 0), NameWall.NONE);
        CHECK.due("P9 no such other", wall.tied(0, 3), NameWall.NONE);
        CHECK.due("P9 below", wall.tied(-1, 0), NameWall.NONE);
        CHECK.due("P9 below", wall.tied(0, -1), NameWall.NONE);
        CHECK.due("P38 friends", wall.friends(0), 6);
        CHECK.due("P38 friends", wall.friends(1), 1);
        CHECK.due("P38 no such one", wall.friends(3), NameWall.NONE);
        CHECK.due("P38 below", wall.friends(-1), NameWall.NONE);
        CHECK.due("P38 nobody", Check.city("ng1;ng1").friends(0), 0);
        NameWall mortal = Check.city("n;ni1;t");
        mortal.evening(1);
        CHECK.due("P38 GONE ones stay FRIENDS", mortal.friends(0), 2);
        CHECK.due("P38 of a GONE one", mortal.friends(1), 1);
        CHECK.due("P9 GONE ones stay TIED", mortal.tied(0, 1), 1);
    }

    private static void counts() {
        NameWall wall = Check.city("n;n;ni1;t;t", "y:r+k");
        Check.put(wall, "n;n");
        wall.evening(1);
        wall.dent(0, 0, false);
        wall.fogs(3);
        wall.colds(4);
        wall.shout(0, 1, 0);
        wall.shout(1, 0, 1);
        int[] due = {3, 2, 1, 3, 0, 1, 0, 3, 2, 2, 3, 4, 1, 1, 3};
        for (int what = 0; what < due.length; what++) {
            CHECK.due("P43 count " + what, wall.count(what), due[what]);
        }
        wall.fog(true);
        CHECK.due("P43 FOG", wall.count(6), 1);
        CHECK.due("P43 none are HEARD", wall.count(9), 0);
        CHECK.due("P43 ACTS", wall.count(14), 4);
        CHECK.due("P43 below", wall.count(-1), NameWall.HIDDEN);
        CHECK.due("P43 above", wall.count(15), NameWall.HIDDEN);
        wall.law(-1);
        CHECK.due("P43 no LAW holds", wall.count(4), NameWall.NONE);
    }
}
