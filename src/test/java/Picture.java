import java.util.NoSuchElementException;

/**
 * All that a wall tells, as one text. What it keeps for later (the TAPE, LAWS, ACTS, the IMAGE) shows only when it is
 * used: that comes last and uses the wall up, so that a picture is taken of a wall once. It takes some 300 calls.
 */
final class Picture {
    private static final int[] LOGGED = {0, 1, 58, 59, 60};

    private final NameWall wall;
    private final int names;
    private final StringBuilder told = new StringBuilder();

    private Picture(NameWall wall) {
        this.wall = wall;
        this.names = wall.count(0);
    }

    static String of(NameWall wall) {
        Picture picture = new Picture(wall);
        picture.ask();
        picture.useLaws();
        picture.useActs();
        picture.useImage();
        picture.useTape();
        return picture.told.toString();
    }

    /** All questions alone: they must change nothing. */
    static void askOnly(NameWall wall) {
        new Picture(wall).ask();
    }

    /** What name() answers, 999999 for NoSuchElementException. */
    static int nameOf(NameWall wall, int name, int what) {
        try {
            return wall.name(name, what);
        } catch (NoSuchElementException e) {
            return 999999;
        }
    }

    private void tell(String call, long... answers) {
        told.append(call);
        for (long answer : answers) {
            told.append(' ').append(answer);
        }
        told.append('\n');
    }

    private void ask() {
        for (int what = 0; what < 15; what++) {
            tell("count " + what, wall.count(what));
        }
        for (int what = 0; what < 4; what++) {
            tell("square " + what, wall.square(what));
        }
        for (int name = 0; name < names; name++) {
            // Of more than six NAMES the first two and the last two must do.
            if (names <= 6 || name < 2 || name >= names - 2) {
                askOf(name);
            }
        }
        for (int i : LOGGED) {
            tell("log " + i, wall.log(i, 0), wall.log(i, 1), wall.log(i, 2));
        }
        int standing = wall.count(7);
        tell("keep", wall.keep(standing, 0), wall.keep(standing & 5, 1));
        tell("ring", wall.ring(standing), wall.ring(3));
        tell("ties", wall.packed(), wall.weak(), wall.parts(), wall.bridges(), wall.bond(), wall.tied(0, 1));
        tell("found", wall.fits(-1), wall.fits(0), wall.fits(3), wall.best());
        tell("who", wall.sharpest(), wall.faintest(), wall.richest(), wall.helped(), wall.doomed());
        tell("faults", wall.fault(0), wall.fault(1));
    }

    private void askOf(int name) {
        for (int what = 0; what <= 10; what++) {
            tell("name " + name + " " + what, nameOf(wall, name, what));
        }
        tell("of " + name, wall.friends(name), wall.alone(name), wall.need(name), wall.price(name, 0),
                wall.price(name, 1), wall.rival(name, 0, 0), wall.rests(name, -1), wall.odds(name, 3, 4, 30));
    }

    private void useLaws() {
        int holding = wall.count(4);
        for (int law = -1; law < wall.count(2); law++) {
            tell("law " + law, wall.law(law) ? 1 : 0, nameOf(wall, 0, 9));
        }
        wall.law(holding);
    }

    private void useActs() {
        int left = wall.undo();
        for (int i = 0; i < 45 && left >= 0; i++) {
            tell("undone " + left, left < 12 ? wall.count(5) : 0);
            left = wall.undo();
        }
        tellDay("behind all ACTS");
    }

    private void useImage() {
        tell("back", wall.back());
        tellDay("the IMAGE");
    }

    private void useTape() {
        tell("text 1", wall.text(1), wall.count(2));
        tell("law", wall.law(wall.count(2) - 1) ? 1 : 0, nameOf(wall, 0, 9));
        tell("text 0", wall.text(0));
        tellDay("the TAPE");
    }

    private void tellDay(String when) {
        told.append(when);
        for (int what = 5; what < 10; what++) {
            tell(" count " + what, wall.count(what));
        }
        tell(" log", wall.log(0, 2), wall.log(59, 2));
        for (int name = 0; name < names && name < 3; name++) {
            for (int what : new int[] {3, 5, 6, 7, 8}) {
                tell(" name " + name + " " + what, nameOf(wall, name, what));
            }
        }
    }
}
