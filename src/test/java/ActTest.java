/** Promises 8, 10 to 18, 41 and 42: LAWS that hold, ACTS, EVENINGS, CENTURIES, the LOG, IMAGES. */
public final class ActTest {
    private static final Check CHECK = new Check();

    public static void main(String[] args) {
        laws();
        shouts();
        drowning();
        weather();
        evenings();
        atOnce();
        lastDay();
        chances();
        centuries();
        undoing();
        undoingMany();
        logs();
        images();
        imageLog();
        CHECK.end();
    }

    private static void laws() {
        NameWall wall = new NameWall();
        CHECK.due("P8 none to hold", wall.law(0), false);
        CHECK.due("P8 none holds", wall.law(-1), true);
        Check.put(wall, "y:1");
        wall.text(1);
        CHECK.due("P8 it holds", wall.law(0), true);
        CHECK.due("P8 again", wall.law(0), true);
        CHECK.due("P8 above", wall.law(1), false);
        CHECK.due("P8 below", wall.law(-2), false);
        CHECK.due("P8 refused changes nothing", wall.count(4), 0);
        CHECK.due("P8 none again", wall.law(-1), true);
        CHECK.due("P8 none holds", wall.count(4), NameWall.NONE);
        CHECK.due("P8 is no ACT", wall.undo(), NameWall.NONE);
    }

    private static void shouts() {
        NameWall wall = Check.city("nw5;np4;np5;np0;ni1;tb3");
        CHECK.due("P10 no such one", wall.shout(5, 0, 0), NameWall.NONE);
        CHECK.due("P10 no such other", wall.shout(0, 5, 0), NameWall.NONE);
        CHECK.due("P10 below", wall.shout(-1, 0, 0), NameWall.NONE);
        CHECK.due("P10 below", wall.shout(0, -1, 0), NameWall.NONE);
        CHECK.due("P10 alike", wall.shout(0, 0, 0), NameWall.NONE);
        CHECK.due("P10 no such HOUR", wall.shout(0, 2, 4), NameWall.NONE);
        CHECK.due("P10 no such HOUR", wall.shout(0, 2, -1), NameWall.NONE);
        CHECK.due("P10 too few PENCE", wall.shout(0, 1, 0), NameWall.NONE);
        CHECK.due("P10 refused changes nothing", wall.count(8), 0);
        CHECK.due("P10 no ACT", wall.count(14), 0);
        CHECK.due("P10 just enough", wall.shout(0, 2, 3), 0);
        CHECK.due("P10 paid at once", wall.name(0, 3), 10);
        CHECK.due("P10 it has SHOUTED", wall.shout(0, 3, 0), NameWall.NONE);
        CHECK.due("P10 too few PENCE now", wall.shout(1, 2, 0), NameWall.NONE);
        CHECK.due("P10 TIED ones pay nothing", wall.shout(3, 0, 0), 10);
        CHECK.due("P10 TIED ones get nothing", wall.name(3, 3), 0);
        wall.evening(1);
        CHECK.due("P10 the next DAY", wall.shout(0, 3, 0), 0);
        CHECK.due("P10 one is GONE", wall.shout(4, 0, 0), NameWall.NONE);
        CHECK.due("P10 one is GONE", wall.shout(1, 4, 0), NameWall.NONE);
        CHECK.due("P10 no CITY", new NameWall().shout(0, 1, 0), NameWall.NONE);
    }

    private static void drowning() {
        NameWall wall = Check.city("sd2;nw0;nw0;nw0;nw0");
        wall.shout(0, 3, 1);
        wall.shout(1, 3, 1);
        CHECK.due("P10 as many as DROWN are HEARD", wall.count(9), 2);
        CHECK.due("P10 VOICES together", wall.name(3, 10), 6);
        wall.shout(2, 0, 1);
        CHECK.due("P10 one more drowns all", wall.count(9), 0);
        CHECK.due("P10 nothing is got", wall.name(3, 10), 0);
        wall.shout(3, 0, 2);
        CHECK.due("P10 another HOUR does not", wall.count(9), 1);
        CHECK.due("P10 it is HEARD", wall.name(0, 10), 3);
    }

    private static void weather() {
        NameWall wall = Check.city("n;ni1");
        CHECK.due("P11 there is none", wall.fog(false), false);
        CHECK.due("P11 it comes", wall.fog(true), true);
        CHECK.due("P11 it is there", wall.fog(true), false);
        CHECK.due("P11 told", wall.count(6), 1);
        CHECK.due("P11 it lifts", wall.fog(false), true);
        CHECK.due("P11 two ACTS", wall.count(14), 2);
        wall.fog(true);
        CHECK.due("P12 no such one", wall.hoarse(2), false);
        CHECK.due("P12 below", wall.hoarse(-1), false);
        CHECK.due("P12 HOARSE", wall.hoarse(1), true);
        CHECK.due("P12 once a DAY", wall.hoarse(1), false);
        CHECK.due("P12 an ACT", wall.count(14), 4);
        CHECK.due("P12 just that one", wall.name(0, 8), 0);
        wall.evening(1);
        CHECK.due("P11 it lifts in the EVENING", wall.count(6), 0);
        CHECK.due("P12 GONE", wall.hoarse(1), false);
        CHECK.due("P12 the next DAY", wall.hoarse(0), true);
        CHECK.due("P11 no CITY", new NameWall().fog(true), false);
        CHECK.due("P11 no CITY", new NameWall().fog(false), false);
        CHECK.due("P12 no CITY", new NameWall().hoarse(0), false);
    }

    private static void evenings() {
        NameWall wall = Check.city("sr3c30;ni30v9;ni7w0;nk3i6");
        CHECK.due("P13 none", wall.evening(0), NameWall.NONE);
        CHECK.due("P13 too many", wall.evening(61), NameWall.NONE);
        CHECK.due("P13 below", wall.evening(-1), NameWall.NONE);
        CHECK.due("P13 no CITY", new NameWall().evening(1), NameWall.NONE);
        wall.shout(0, 1, 0);
        wall.shout(1, 0, 1);
        CHECK.due("P13 the DAY", wall.evening(1), 1);
        CHECK.due("P13 held by CUT: 30 and 3 less 3", wall.name(0, 5), 30);
        CHECK.due("P13 7 and 9 less 3", wall.name(1, 5), 13);
        CHECK.due("P13 6 less 6", wall.name(2, 5), 0);
        CHECK.due("P13 two more", wall.evening(2), 3);
        CHECK.due("P13 nobody SHOUTED", wall.name(0, 5), 24);
        CHECK.due("P13 the DAY goes on", wall.evening(60), 63);
        CHECK.due("P13 all GONE", wall.count(7), 0);
        CHECK.due("P13 still EVENINGS", wall.evening(1), 64);
        NameWall risen = Check.city("ni5;ni5v9w0", "y:d<1?0;y:1");
        risen.evening(5);
        CHECK.due("P13 GONE ones stay so", risen.name(0, 5), 0);
        NameWall deeper = Check.city("sc25;ni24;nv9");
        deeper.shout(1, 0, 0);
        deeper.evening(1);
        CHECK.due("P13 no deeper than CUT", deeper.name(0, 5), 25);
    }

    private static void atOnce() {
        // 0 dies this EVENING; what it SHOUTED and that it was HEARD counts all the same.
        NameWall wall = Check.city("ni1v4w0g2;ni9g2;nw0v0;n");
        wall.shout(0, 1, 0);
        wall.shout(2, 0, 0);
        wall.evening(1);
        CHECK.due("P13 9 and 4 and 1 less 2", wall.name(1, 5), 12);
        CHECK.due("P13 1 and 0 and 1 less 2", wall.name(0, 5), 0);
        NameWall many = Check.city("sd4;ng1w0;ng1w0;ng1w0;ng2w0;ng0w0;ng0w0");
        many.shout(0, 1, 0);
        many.shout(3, 1, 0);
        many.shout(1, 2, 0);
        many.shout(2, 4, 0);
        many.shout(4, 5, 1);
        CHECK.due("P13 each other LIKE NAME once", many.name(0, 10), 2);
        CHECK.due("P13 not itself", many.name(1, 10), 7);
        CHECK.due("P13 another number is not LIKE", many.name(3, 10), 0);
        CHECK.due("P13 0 is LIKE nobody", many.name(4, 10), 3);
        many.evening(1);
        CHECK.due("P13 20 and 7 less 2", many.name(1, 5), 25);
        NameWall lawful = Check.city("ni10w0;ni10w0;ni10", "y:d-s*5");
        lawful.shout(0, 1, 0);
        lawful.evening(1);
        CHECK.due("P13 LOSS by DEPTH as it was", lawful.name(0, 5), 0);
        CHECK.due("P13 LOSS by SHOUTS HEARD", lawful.name(1, 5), 8);
    }

    private static void lastDay() {
        NameWall wall = Check.city("sr0;n;n;t");
        for (int i = 0; i < 166; i++) {
            wall.evening(60);
        }
        CHECK.due("P13 the DAY", wall.count(5), 9960);
        CHECK.due("P13 beyond 9,999", wall.evening(40), NameWall.NONE);
        CHECK.due("P16 beyond 9,999", wall.centuries(40, 1), NameWall.NONE);
        CHECK.due("P13 refused changes nothing", wall.count(5), 9960);
        CHECK.due("P16 up to 9,998", wall.centuries(38, 1), 9998);
        CHECK.due("P13 up to 9,999", wall.evening(1), 9999);
        CHECK.due("P13 none then", wall.evening(1), NameWall.NONE);
        CHECK.due("P16 none then", wall.centuries(1, 1), NameWall.NONE);
        CHECK.due("P17 undone", wall.undo(), 39);
        CHECK.due("P16 the last one", wall.centuries(1, 1), 9999);
    }

    private static void chances() {
        NameWall wall = new NameWall();
        CHECK.due("P14 it is so", wall.fogs(0), false);
        CHECK.due("P14 below", wall.fogs(-1), false);
        CHECK.due("P14 above", wall.fogs(100), false);
        CHECK.due("P14 the greatest", wall.fogs(99), true);
        CHECK.due("P14 it is so", wall.fogs(99), false);
        CHECK.due("P14 told", wall.count(10), 99);
        CHECK.due("P14 again 0", wall.fogs(0), true);
        CHECK.due("P15 it is so", wall.colds(0), false);
        CHECK.due("P15 below", wall.colds(-1), false);
        CHECK.due("P15 above", wall.colds(100), false);
        CHECK.due("P15 the greatest", wall.colds(99), true);
        CHECK.due("P15 it is so", wall.colds(99), false);
        CHECK.due("P15 told", wall.count(11), 99);
        CHECK.due("P15 not FOGS", wall.count(10), 0);
        CHECK.due("P15 again 0", wall.colds(0), true);
        CHECK.due("P14 no ACTS", wall.count(14), 0);
    }

    private static void centuries() {
        // x by seed 0 is 1442695040888963407: shifted by 33 it is 167951807, modulo 100 it is 7.
        NameWall fog = Check.city("sr0h1;n;n;t");
        fog.fogs(7);
        fog.centuries(1, 0);
        CHECK.due("P16 7 is not below 7", fog.log(0, 1), 2);
        fog.fogs(8);
        CHECK.due("P16 the DAY", fog.centuries(1, 0), 2);
        CHECK.due("P16 7 is below 8", fog.log(0, 1), 0);
        CHECK.due("P16 each DAY is one ACT", fog.count(14), 2);
        NameWall plain = Check.city("sr1d1h1c60;ni50;ni50;ni50;tb2;ta1b2");
        plain.centuries(2, 77);
        CHECK.due("P16 three in one HOUR drown", plain.name(2, 5), 48);
        NameWall room = Check.city("sr1d3h1c60;ni50v1;ni50v2;ni50v4;ni50v8;tb2;ta1b2");
        room.centuries(1, 77);
        CHECK.due("P16 two SHOUT 2", room.name(2, 5), 52);
        CHECK.due("P16 which SHOUTS the lowest", room.name(0, 5), 53);
        CHECK.due("P16 and no other", room.name(1, 5), 49);
        CHECK.due("P16 not TIED: nobody SHOUTS", room.name(3, 5), 49);
        CHECK.due("P16 PENCE stay", room.name(2, 3), 5);
        room.shout(2, 1, 0);
        room.centuries(1, 77);
        CHECK.due("P16 what was SHOUTED by hand stays", room.name(1, 5), 52);
        room.fog(true);
        room.centuries(1, 77);
        CHECK.due("P16 FOG by hand stays", room.log(0, 1), 0);
        refusedCenturies(room);
        drawnHoarse();
    }

    private static void refusedCenturies(NameWall wall) {
        CHECK.due("P16 none", wall.centuries(0, 1), NameWall.NONE);
        CHECK.due("P16 too many", wall.centuries(61, 1), NameWall.NONE);
        CHECK.due("P16 below", wall.centuries(-1, 1), NameWall.NONE);
        CHECK.due("P16 sixty", wall.centuries(60, -1), 63);
        CHECK.due("P16 no CITY", new NameWall().centuries(1, 1), NameWall.NONE);
    }

    /** The draws of seed 1, by the document's numbers. */
    private static void drawnHoarse() {
        long x = 1;
        int[] draws = new int[8];
        for (int i = 0; i < draws.length; i++) {
            x = x * 6364136223846793005L + 1442695040888963407L;
            draws[i] = (int) ((x >>> 33) % (i < 4 ? 100 : 6));
        }
        // One draw for FOG, three for HOARSE, three for HOURS.
        for (int colds = 1; colds < 100; colds++) {
            NameWall wall = Check.city("sr0h6d1c90;ni20v1;ni20v1;ni20v1;tb1;tb2");
            wall.colds(colds);
            wall.centuries(1, 1);
            int[] hours = {draws[4], draws[5], draws[6]};
            int[] of = {1, 0, 0};
            int[] depth = {20, 20, 20};
            int heard = 0;
            for (int by = 0; by < 3; by++) {
                boolean isHeard = hours[by] != hours[(by + 1) % 3] && hours[by] != hours[(by + 2) % 3];
                heard += isHeard ? 1 : 0;
                depth[of[by]] += isHeard && draws[1 + by] >= colds ? 1 : 0;
            }
            CHECK.due("P16 HEARD", wall.log(0, 1), heard);
            for (int name = 0; name < 3; name++) {
                CHECK.due("P16 COLDS " + colds + " DEPTH " + name, wall.name(name, 5), depth[name]);
            }
        }
    }

    private static void undoing() {
        NameWall wall = Check.city("n;n;ni2");
        CHECK.due("P17 none", wall.undo(), NameWall.NONE);
        wall.shout(0, 1, 2);
        wall.fog(true);
        wall.hoarse(1);
        wall.evening(2);
        wall.centuries(1, 5);
        CHECK.due("P17 ACTS", wall.count(14), 6);
        CHECK.due("P17 a DAY of CENTURIES", wall.undo(), 5);
        CHECK.due("P17 the DAY", wall.count(5), 2);
        CHECK.due("P17 an EVENING", wall.undo(), 4);
        CHECK.due("P17 the LOG, too", wall.count(13), 1);
        CHECK.due("P17 the other one", wall.undo(), 3);
        CHECK.due("P17 it STANDS again", wall.count(7), 7);
        CHECK.due("P17 HOARSE again", wall.name(1, 8), 1);
        CHECK.due("P17 FOG again", wall.count(6), 1);
        CHECK.due("P17 HOARSE", wall.undo(), 2);
        CHECK.due("P17 not HOARSE", wall.name(1, 8), 0);
        CHECK.due("P17 FOG", wall.undo(), 1);
        CHECK.due("P17 no FOG", wall.count(6), 0);
        CHECK.due("P17 SHOUTED", wall.name(0, 7), 2);
        CHECK.due("P17 a SHOUT", wall.undo(), 0);
        CHECK.due("P17 not SHOUTED", wall.name(0, 6), NameWall.NONE);
        CHECK.due("P17 PENCE", wall.name(0, 3), 5);
        CHECK.due("P17 PENCE", wall.name(1, 3), 5);
        CHECK.due("P17 none", wall.undo(), NameWall.NONE);
        wall.fogs(5);
        wall.dent(1, 1, true);
        wall.image();
        CHECK.due("P17 no ACTS", wall.undo(), NameWall.NONE);
    }

    private static void undoingMany() {
        NameWall wall = Check.city("sr0;ni9;n", "y:y/10*0");
        wall.evening(60);
        wall.law(-1);
        CHECK.due("P17 the latest 40", wall.count(14), 40);
        wall.evening(60);
        CHECK.due("P18 the latest 60", wall.count(13), 60);
        for (int left = 39; left >= 0; left--) {
            CHECK.due("P17 still", wall.undo(), left);
        }
        CHECK.due("P17 no more", wall.undo(), NameWall.NONE);
        CHECK.due("P17 the DAY", wall.count(5), 80);
        CHECK.due("P18 the latest 60 again", wall.count(13), 60);
        CHECK.due("P18 the oldest of them", wall.log(59, 2), 29);
        CHECK.due("P18 beyond", wall.log(60, 2), NameWall.NONE);
    }

    private static void logs() {
        NameWall wall = Check.city("sr1;ni2;ni9v2w0;ni1;n");
        CHECK.due("P18 empty", wall.log(0, 0), NameWall.NONE);
        wall.shout(1, 3, 0);
        wall.evening(1);
        wall.evening(1);
        CHECK.due("P18 GONE", wall.log(0, 0), 1);
        CHECK.due("P18 HEARD", wall.log(0, 1), 0);
        CHECK.due("P18 DEPTHS: 0, 7, 0, 20", wall.log(0, 2), 27);
        CHECK.due("P18 GONE ahead", wall.log(1, 0), 4);
        CHECK.due("P18 HEARD ahead", wall.log(1, 1), 1);
        CHECK.due("P18 DEPTHS ahead: 1, 8, 0, 21", wall.log(1, 2), 30);
        CHECK.due("P18 beyond", wall.log(2, 0), NameWall.NONE);
        CHECK.due("P18 below", wall.log(-1, 0), NameWall.NONE);
        CHECK.due("P18 no such", wall.log(0, 3), NameWall.NONE);
        CHECK.due("P18 no such", wall.log(0, -1), NameWall.NONE);
        wall.evening(60);
        CHECK.due("P18 how long", wall.count(13), 60);
        CHECK.due("P18 the 60th", wall.log(59, 2), 25);
        CHECK.due("P18 no CITY", new NameWall().log(0, 0), NameWall.NONE);
    }

    /** What the LOG tells at the IMAGE must come again, though other DAYS were written in between. */
    private static void imageLog() {
        NameWall wall = Check.city("ni30;nw0v9;ni2");
        wall.evening(1);
        wall.image();
        wall.undo();
        wall.shout(1, 2, 0);
        wall.evening(1);
        CHECK.due("P18 nobody GONE", wall.log(0, 0), 0);
        CHECK.due("P18 HEARD", wall.log(0, 1), 1);
        CHECK.due("P18 DEPTHS: 28, 18, 9", wall.log(0, 2), 55);
        wall.back();
        CHECK.due("P42 GONE", wall.log(0, 0), 4);
        CHECK.due("P42 not HEARD", wall.log(0, 1), 0);
        CHECK.due("P42 DEPTHS: 28, 18, 0", wall.log(0, 2), 46);
        wall.evening(60);
        wall.evening(60);
        CHECK.due("P42 the DAY", wall.back(), 1);
        CHECK.due("P42 GONE again", wall.log(0, 0), 4);
        CHECK.due("P42 DEPTHS again", wall.log(0, 2), 46);
        CHECK.due("P42 one DAY", wall.count(13), 1);
    }

    private static void images() {
        CHECK.due("P41 no CITY", new NameWall().image(), NameWall.NONE);
        CHECK.due("P42 no CITY", new NameWall().back(), NameWall.NONE);
        NameWall wall = Check.city("ni3;nw0v0;n");
        CHECK.due("P42 no IMAGE", wall.back(), NameWall.NONE);
        wall.evening(1);
        wall.shout(1, 0, 2);
        wall.fog(true);
        wall.hoarse(2);
        CHECK.due("P41 the DAY", wall.image(), 1);
        CHECK.due("P41 is no ACT", wall.count(14), 4);
        wall.evening(60);
        wall.dent(0, 0, true);
        wall.fogs(9);
        Check.lawful(wall, "y:5");
        CHECK.due("P42 the DAY", wall.back(), 1);
        CHECK.due("P42 DEPTH", wall.name(0, 5), 1);
        CHECK.due("P42 SHOUTS", wall.name(1, 6), 0);
        CHECK.due("P42 HOUR", wall.name(1, 7), 2);
        CHECK.due("P42 FOG", wall.count(6), 1);
        CHECK.due("P42 HOARSE", wall.name(2, 8), 1);
        CHECK.due("P42 LOG", wall.count(13), 1);
        CHECK.due("P42 its DEPTHS", wall.log(0, 2), 37);
        CHECK.due("P42 no ACT", wall.undo(), NameWall.NONE);
        CHECK.due("P42 FOGS stay", wall.count(10), 9);
        CHECK.due("P42 DENTS stay", wall.count(12), 1);
        CHECK.due("P42 the LAW stays", wall.count(4), 0);
        wall.fog(false);
        wall.undo();
        wall.shout(0, 2, 0);
        CHECK.due("P42 again", wall.back(), 1);
        CHECK.due("P42 PENCE", wall.name(0, 3), 5);
        wall.evening(3);
        CHECK.due("P41 instead of the one ahead", wall.image(), 4);
        wall.evening(3);
        CHECK.due("P42 the new one", wall.back(), 4);
        CHECK.due("P42 its LOG", wall.count(13), 4);
    }
}
