/** Promises 28 to 33: DENTS, FITS, LOOK, RIVALS, RESTS, ODDS. */
public final class FoundTest {
    private static final Check CHECK = new Check();

    public static void main(String[] args) {
        dents();
        fits();
        looks();
        rivals();
        rests();
        oddsPlain();
        oddsCut();
        oddsDeep();
        oddsRefused();
        CHECK.end();
    }

    private static void dents() {
        NameWall wall = new NameWall();
        CHECK.due("P28 no such place", wall.dent(-1, 0, true), NameWall.NONE);
        CHECK.due("P28 no such place", wall.dent(3, 0, true), NameWall.NONE);
        CHECK.due("P28 no such letter", wall.dent(0, -1, true), NameWall.NONE);
        CHECK.due("P28 no such letter", wall.dent(0, 5, true), NameWall.NONE);
        CHECK.due("P28 refused changes nothing", wall.count(12), 0);
        for (int i = 1; i <= 12; i++) {
            CHECK.due("P28 the same again counts", wall.dent(2, 4, false), i);
        }
        CHECK.due("P28 there are 12", wall.dent(0, 0, true), NameWall.NONE);
        CHECK.due("P28 refused changes nothing", wall.fits(-1), 100);
        Check.put(wall, "n;n");
        wall.text(0);
        CHECK.due("P28 another CITY", wall.dent(0, 0, true), 1);
    }

    private static void fits() {
        NameWall wall = new NameWall();
        CHECK.due("P29 all", wall.fits(-1), 125);
        CHECK.due("P29 the first", wall.fits(0), 0);
        CHECK.due("P29 the sixth", wall.fits(5), 10);
        CHECK.due("P29 the last", wall.fits(124), 444);
        CHECK.due("P29 beyond", wall.fits(125), NameWall.NONE);
        CHECK.due("P29 below", wall.fits(-2), NameWall.NONE);
        wall.dent(1, 3, true);
        CHECK.due("P29 with 3 between", wall.fits(-1), 25);
        CHECK.due("P29 rising", wall.fits(6), 131);
        wall.dent(2, 0, false);
        CHECK.due("P29 without 0 behind", wall.fits(-1), 20);
        CHECK.due("P29 rising", wall.fits(4), 131);
        wall.dent(0, 4, true);
        CHECK.due("P29 with 4 ahead", wall.fits(-1), 4);
        CHECK.due("P29 the first", wall.fits(0), 431);
        CHECK.due("P29 the last", wall.fits(3), 434);
        wall.dent(0, 3, true);
        CHECK.due("P29 nothing", wall.fits(-1), 0);
        CHECK.due("P29 no such one", wall.fits(0), NameWall.NONE);
    }

    private static void looks() {
        NameWall wall = new NameWall();
        CHECK.due("P30 the least of several", wall.best(), 0);
        wall.dent(0, 0, false);
        CHECK.due("P30 25 of 100", wall.best(), 1);
        wall.dent(0, 1, true);
        CHECK.due("P30 5 of 25", wall.best(), 10);
        wall.dent(1, 0, false);
        wall.dent(2, 0, false);
        wall.dent(2, 1, false);
        CHECK.due("P30 4 of 12", wall.best(), 22);
        wall.dent(1, 1, false);
        wall.dent(1, 2, false);
        CHECK.due("P30 3 of 6", wall.best(), 13);
        wall.dent(1, 3, true);
        wall.dent(2, 2, false);
        wall.dent(2, 3, false);
        CHECK.due("P30 one alone", wall.best(), 0);
        wall.dent(2, 4, false);
        CHECK.due("P30 nothing fits", wall.best(), NameWall.NONE);
    }

    private static void rivals() {
        NameWall wall = Check.city("sh3d2;nv7w0;nw0;nw0;ni1");
        CHECK.due("P31 HEARD", wall.rival(0, 0, 1), 7);
        CHECK.due("P31 in one HOUR", wall.rival(0, 1, 1), 0);
        wall.shout(1, 0, 2);
        CHECK.due("P31 with one more", wall.rival(0, 2, 0), 7);
        wall.shout(2, 0, 2);
        CHECK.due("P31 with two more", wall.rival(0, 2, 0), 0);
        CHECK.due("P31 it has SHOUTED", wall.rival(1, 0, 1), NameWall.HIDDEN);
        wall.fog(true);
        CHECK.due("P31 no FOG", wall.rival(0, 0, 2), 7);
        CHECK.due("P31 no such HOUR", wall.rival(0, 3, 0), NameWall.HIDDEN);
        CHECK.due("P31 no such HOUR", wall.rival(0, 0, 3), NameWall.HIDDEN);
        CHECK.due("P31 below", wall.rival(0, -1, 0), NameWall.HIDDEN);
        CHECK.due("P31 below", wall.rival(0, 0, -1), NameWall.HIDDEN);
        CHECK.due("P31 no such one", wall.rival(4, 0, 1), NameWall.HIDDEN);
        CHECK.due("P31 no such one", wall.rival(-1, 0, 1), NameWall.HIDDEN);
        wall.hoarse(0);
        CHECK.due("P31 HOARSE", wall.rival(0, 0, 1), 0);
        wall.evening(1);
        CHECK.due("P31 GONE", wall.rival(3, 0, 1), NameWall.HIDDEN);
        CHECK.due("P31 the next DAY", wall.rival(1, 2, 1), 3);
        CHECK.due("P31 no CITY", new NameWall().rival(0, 0, 0), NameWall.HIDDEN);
    }

    private static void rests() {
        NameWall wall = Check.city("sh3d1;nv7w0;nw0;nw0;nw0;ni1");
        CHECK.due("P32 each flees the other", wall.rests(0, -1), 0);
        CHECK.due("P32 no such one", wall.rests(0, 0), NameWall.NONE);
        wall.shout(1, 0, 0);
        wall.shout(2, 0, 2);
        CHECK.due("P32 one HOUR left: y there", wall.rests(0, -1), 3);
        CHECK.due("P32 the first", wall.rests(0, 0), 1);
        CHECK.due("P32 the second", wall.rests(0, 1), 11);
        CHECK.due("P32 the third", wall.rests(0, 2), 21);
        CHECK.due("P32 beyond", wall.rests(0, 3), NameWall.NONE);
        CHECK.due("P32 below", wall.rests(0, -2), NameWall.NONE);
        wall.shout(3, 0, 1);
        CHECK.due("P32 none left: all", wall.rests(0, -1), 9);
        CHECK.due("P32 the last", wall.rests(0, 8), 22);
        CHECK.due("P32 it has SHOUTED", wall.rests(1, -1), NameWall.NONE);
        CHECK.due("P32 no such one", wall.rests(5, -1), NameWall.NONE);
        CHECK.due("P32 below", wall.rests(-1, -1), NameWall.NONE);
        wall.evening(1);
        CHECK.due("P32 GONE", wall.rests(4, -1), NameWall.NONE);
        wall.hoarse(2);
        CHECK.due("P32 HOARSE: all", wall.rests(2, -1), 9);
        CHECK.due("P32 one HOUR", Check.city("sh1;n;n").rests(0, 0), 0);
        CHECK.due("P32 one HOUR", Check.city("sh1;n;n").rests(0, -1), 1);
        CHECK.due("P32 no CITY", new NameWall().rests(0, -1), NameWall.NONE);
    }

    private static void oddsPlain() {
        NameWall wall = Check.city("sr2;ni5;n");
        CHECK.due("P33 no DAYS", wall.odds(0, 0, 0, 100), 1000000000);
        CHECK.due("P33 FOG alone", wall.odds(0, 2, 9, 100), 1000000000);
        CHECK.due("P33 FOG alone", wall.odds(0, 3, 9, 100), 0);
        CHECK.due("P33 no FOG", wall.odds(0, 30, 2, 0), 1000000000);
        CHECK.due("P33 a VOICE too low", wall.odds(0, 4, 1, 0), 1000000000);
        CHECK.due("P33 a VOICE too low", wall.odds(0, 5, 1, 0), 0);
        CHECK.due("P33 three times FOG", wall.odds(0, 3, 3, 50), 875000000);
        // With VOICE 2 three times FOG within four DAYS: 1/8 by then, 3/16 of the rest on the fourth.
        CHECK.due("P33 three of four", wall.odds(0, 4, 2, 50), 687500000);
        wall.fog(true);
        wall.shout(1, 0, 0);
        CHECK.due("P33 whatever there is today", wall.odds(0, 3, 3, 50), 875000000);
        NameWall low = Check.city("sr2c5;ni5;ni5");
        CHECK.due("P33 held by CUT", low.odds(0, 4, 9, 100), 0);
        // 5 stays 5, whatever is HEARD: just three FOGS running end it.
        CHECK.due("P33 held by CUT", low.odds(0, 4, 9, 50), 812500000);
    }

    private static void oddsCut() {
        NameWall wall = Check.city("sr1c9;ni1;ni1");
        // 7 of 100 each DAY at DEPTH 1; what is HEARD stays at 1: 1e9, 930000000, 864900000, 804357000, 748052010 ..
        CHECK.due("P33 a chance", wall.odds(0, 1, 1, 7), 930000000);
        CHECK.due("P33 again", wall.odds(0, 4, 1, 7), 748052010);
        // 695688369.3 and 646990183.45: each time FOG is cut.
        CHECK.due("P33 FOG is cut", wall.odds(0, 5, 1, 7), 695688370);
        CHECK.due("P33 FOG is cut again", wall.odds(0, 6, 1, 7), 646990185);
        NameWall lawful = Check.city("ni9;ni9", "y:y=1?9-s;y:s+p-5");
        CHECK.due("P33 the DAY goes on: 9 by FOG on DAY 1", lawful.odds(0, 2, 1, 50), 500000000);
        CHECK.due("P33 but not on DAY 0", lawful.odds(0, 1, 1, 50), 1000000000);
        lawful.evening(1);
        CHECK.due("P33 from the DAY that is", lawful.odds(0, 1, 1, 50), 500000000);
    }

    private static void oddsDeep() {
        NameWall wall = Check.city("sr0c99;ni99;n");
        CHECK.due("P33 the greatest DEPTH", wall.odds(0, 2, 9, 0), 1000000000);
        CHECK.due("P33 the greatest DEPTH", wall.odds(0, 2, 0, 30), 1000000000);
        NameWall heard = Check.city("n;n", "y:20*s");
        CHECK.due("P33 s 1", heard.odds(0, 1, 9, 0), 1000000000);
        CHECK.due("P33 s 1", heard.odds(0, 1, 0, 0), 0);
        CHECK.due("P33 s 0 in FOG", heard.odds(0, 1, 0, 40), 400000000);
        NameWall unheard = Check.city("n;n", "y:20-20*s");
        CHECK.due("P33 s 0 in FOG", unheard.odds(0, 1, 0, 40), 600000000);
    }

    private static void oddsRefused() {
        NameWall wall = Check.city("n;ni1");
        CHECK.due("P33 no such one", wall.odds(2, 1, 1, 1), NameWall.NONE);
        CHECK.due("P33 below", wall.odds(-1, 1, 1, 1), NameWall.NONE);
        CHECK.due("P33 DAYS", wall.odds(0, -1, 1, 1), NameWall.NONE);
        CHECK.due("P33 DAYS", wall.odds(0, 31, 1, 1), NameWall.NONE);
        CHECK.due("P33 VOICE", wall.odds(0, 1, -1, 1), NameWall.NONE);
        CHECK.due("P33 VOICE", wall.odds(0, 1, 10, 1), NameWall.NONE);
        CHECK.due("P33 chance", wall.odds(0, 1, 1, -1), NameWall.NONE);
        CHECK.due("P33 chance", wall.odds(0, 1, 1, 101), NameWall.NONE);
        wall.evening(1);
        CHECK.due("P33 GONE", wall.odds(1, 0, 1, 1), NameWall.NONE);
        CHECK.due("P33 the most", wall.odds(0, 30, 9, 100), 0);
        CHECK.due("P33 no CITY", new NameWall().odds(0, 0, 0, 0), NameWall.NONE);
    }
}
